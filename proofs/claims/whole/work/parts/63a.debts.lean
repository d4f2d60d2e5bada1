/-! the debts of a plan, out of a long -/
def zl (x : Int) (i : Nat) : Bool := (Int64.ofInt x).toBitVec.getLsbD i
theorem o64 (v : Int64) : Int64.ofInt v.toInt = v := Int64.ofInt_toInt v
theorem zl_land (x y : Int) (i : Nat) : zl (mx_land x y) i = (zl x i && zl y i) := by unfold zl mx_land; rw [Int64.ofInt_toInt, Int64.toBitVec_and, BitVec.getLsbD_and]
theorem zb_l {v : Int64} {i : Nat} (hi : i < 32) : zb v.toInt i = v.toBitVec.getLsbD i := by
  unfold zb
  have e : (Int32.ofInt v.toInt).toBitVec = v.toBitVec.signExtend 32 := rfl
  rw [e, BitVec.getLsbD_signExtend]
  simp [hi, show i < 64 by omega]
theorem zb_land {x y : Int} {i : Nat} (hi : i < 32) : zb (mx_land x y) i = (zl x i && zl y i) := by
  unfold mx_land
  rw [zb_l hi, Int64.toBitVec_and, BitVec.getLsbD_and]
  rfl
theorem zl_15 : ∀ i, i < 64 → zl 15 i = decide (i < 4) := by decide +kernel
theorem zl_255 : ∀ i, i < 64 → zl 255 i = decide (i < 8) := by decide +kernel
theorem zb_15 : ∀ i, i < 32 → zb 15 i = decide (i < 4) := by decide +kernel
theorem sh_l : ∀ k, k < 64 → ((Int32.ofInt (k : Nat)).toInt64 &&& 63).toBitVec.smod 64 = BitVec.ofNat 64 k := by decide +kernel
theorem sh_u : ∀ k, k < 64 → (((Int32.ofInt (k : Nat)).toInt64.toUInt64 &&& Int64.toUInt64 63).toBitVec % 64).toNat = k := by decide +kernel
theorem zl_lshr {k : Nat} (hk : k < 48) (x : Int) {i : Nat} (hi : i < 16) : zl (mx_lshr x (k : Int)) i = zl x (k + i) := by
  unfold zl mx_lshr
  rw [Int64.ofInt_toInt, Int64.toBitVec_shiftRight, sh_l k (by omega)]
  rw [BitVec.sshiftRight_eq', BitVec.getLsbD_sshiftRight]
  have : (BitVec.ofNat 64 k).toNat = k := by rw [BitVec.toNat_ofNat]; omega
  rw [this]
  simp [show ¬ 64 ≤ i by omega, show k + i < 64 by omega]
theorem zl_lushr {k : Nat} (hk : k < 48) (x : Int) {i : Nat} (hi : i < 16) : zl (mx_lushr x (k : Int)) i = zl x (k + i) := by
  unfold zl mx_lushr
  rw [Int64.ofInt_toInt]
  show (((Int64.ofInt x).toUInt64 >>> ((Int32.ofInt (k : Nat)).toInt64.toUInt64 &&& Int64.toUInt64 63)).toBitVec).getLsbD i = _
  rw [UInt64.toBitVec_shiftRight, BitVec.ushiftRight_eq', BitVec.getLsbD_ushiftRight, sh_u k (by omega)]
  rfl
/-- four bits of a long -/
def nyb (x : Int) (k : Nat) : Nat := (if zl x k then 1 else 0) + (if zl x (k + 1) then 2 else 0) + (if zl x (k + 2) then 4 else 0) + (if zl x (k + 3) then 8 else 0)
theorem nyb_lt (x : Int) (k : Nat) : nyb x k < 16 := by
  unfold nyb
  split <;> split <;> split <;> split <;> omega
theorem nyb_tb : ∀ a b c d : Bool, ∀ i, i < 32 → zb (((if a then 1 else 0) + (if b then 2 else 0) + (if c then 4 else 0) + (if d then 8 else 0) : Nat) : Int) i = (if i = 0 then a else if i = 1 then b else if i = 2 then c else if i = 3 then d else false) := by decide +kernel
theorem nyb_of {y x : Int} {k : Nat} (h : ∀ i, i < 32 → zb y i = (decide (i < 4) && zl x (k + i))) : w32 y = (nyb x k : Nat) := by
  have l := nyb_lt x k
  rw [← w32_of (n := ((nyb x k : Nat) : Int)) (by omega) (by omega)]
  refine zb_ext (fun i hi => ?_)
  rw [h i hi]
  unfold nyb
  rw [nyb_tb _ _ _ _ i hi]
  by_cases e0 : i = 0
  · subst e0; simp
  · by_cases e1 : i = 1
    · subst e1; simp
    · by_cases e2 : i = 2
      · subst e2; simp
      · by_cases e3 : i = 3
        · subst e3; simp
        · rw [if_neg e0, if_neg e1, if_neg e2, if_neg e3]
          simp
          omega
theorem land_rng {x m : Int} (hm : 0 ≤ m ∧ m ≤ 255) : 0 ≤ mx_land x m ∧ mx_land x m ≤ m := by
  unfold mx_land
  have : (Int64.ofInt x &&& Int64.ofInt m).toInt = (((Int64.ofInt x).toBitVec &&& (Int64.ofInt m).toBitVec)).toInt := rfl
  rw [this]
  have hmn : ((Int64.ofInt m).toBitVec).toNat = m.toNat := by
    show (BitVec.ofInt 64 m).toNat = _
    rw [BitVec.toNat_ofInt]
    omega
  have h1 : ((Int64.ofInt x).toBitVec &&& (Int64.ofInt m).toBitVec).toNat ≤ m.toNat := by
    rw [BitVec.toNat_and, hmn]
    exact Nat.and_le_right
  rw [BitVec.toInt_eq_toNat_cond, if_pos (by omega)]
  omega
theorem dbt_c1 (x : Int) {k : Nat} (hk : k < 6) : mx_iand (mx_land (mx_lushr x (8 * (k : Int))) 255) 15 = (nyb x (8 * k) : Nat) := by
  rw [← w32_iand]
  refine nyb_of (fun i hi => ?_)
  rw [zb_iand, zb_land hi, zb_15 i hi, show 8 * (k : Int) = ((8 * k : Nat) : Int) by omega, zl_255 i (by omega)]
  by_cases h : i < 4
  · rw [zl_lushr (by omega) x (by omega)]
    simp [h, show i < 8 by omega]
  · simp [h]
theorem dbt_c2 (x : Int) {k : Nat} (hk : k < 6) : mx_ishr (mx_land (mx_lushr x (8 * (k : Int))) 255) 4 = (nyb x (8 * k + 4) : Nat) := by
  rw [← w32_ishr]
  refine nyb_of (fun i hi => ?_)
  rw [show (4 : Int) = ((4 : Nat) : Int) from rfl, zb_ishr (by omega) _ hi, show 8 * (k : Int) = ((8 * k : Nat) : Int) by omega]
  split
  · rw [zb_land (by omega), zl_255 _ (by omega)]
    by_cases h : i < 4
    · rw [zl_lushr (by omega) x (by omega)]
      simp [h, show 4 + i < 8 by omega, show 8 * k + (4 + i) = 8 * k + 4 + i by omega]
    · simp [h, show ¬ 4 + i < 8 by omega]
  · rw [zb_land (by omega), zl_255 _ (by omega)]
    simp [show ¬ i < 4 by omega]
theorem dbt_r (x : Int) {k : Nat} (hk : k < 48) : mx_land (mx_lshr x (k : Int)) 15 = (nyb x k : Nat) := by
  have r := land_rng (x := mx_lshr x (k : Int)) (m := 15) (by omega)
  rw [← w32_of (n := mx_land (mx_lshr x (k : Int)) 15) (by omega) (by omega)]
  refine nyb_of (fun i hi => ?_)
  rw [zb_land hi, zl_15 i (by omega)]
  by_cases h : i < 4
  · rw [zl_lshr (by omega) x (by omega)]
    simp [h]
  · simp [h]
