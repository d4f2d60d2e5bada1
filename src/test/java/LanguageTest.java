import java.lang.reflect.Constructor;
import java.lang.reflect.Field;
import java.lang.reflect.Method;
import java.lang.reflect.Modifier;
import java.nio.file.Files;
import java.nio.file.Path;
import java.util.ArrayList;
import java.util.List;
import java.util.Set;
import java.util.TreeSet;
import java.util.regex.Matcher;
import java.util.regex.Pattern;

/** What LANGUAGE.md forbids and a look at the class and its text can find. */
public final class LanguageTest {
    private static final String[] FACE = {
        "int go(int)", "int town()", "int road(int,int,int)", "int lag(int,int)", "int rate(int,int,int)",
        "int rateAt(int,int,int)", "int broker(int,int)", "int put(int,int,int)", "int drawer(int,int)",
        "int feed(int,int,int,int,int)", "int text(int,int,int)", "int fault(int)", "int lines(int,int,int)",
        "int said(int,int,long,int,int)", "int tell(int,int,int,int,int)", "int pay(int,int)", "int back(int)",
        "int twin(int,int)", "int word(int,int)", "int owes(int,int,int)", "int heard(int,int,int,int,int)",
        "long claim(int,int)", "int settle(int,int,int,int)", "int market(int,int,int)",
        "int goods(int,int,int,int,int,int)", "long hidden(int,int)", "int ring(int,int,int)", "int cross(int,int)",
        "int fewest(int,int)", "int step(int,int,int,int)", "int entry(int,int)", "int expect(int,int,int,int,int)",
        "int dry(int,int,boolean)", "int plan(int,long,int,int,int)", "long falls(int)", "int fell(int)",
        "int ruin(int,int)", "long wealth(int)", "int run(int,int,int)", "void tray(int,int,int)",
        "long write(int,int,long)", "long read(int,int)", "void pour(int,int,int,int,int)", "int book(int,int)",
        "int count(int)"};

    public static void main(String[] args) throws Exception {
        face();
        names();
        text();
        Check.end();
    }

    private static void face() throws Exception {
        Set<String> want = new TreeSet<>(List.of(FACE));
        want.add("new NoonWords()");
        want.add("int NONE");
        Set<String> got = new TreeSet<>();
        for (Method method : NoonWords.class.getDeclaredMethods()) {
            if (!Modifier.isPrivate(method.getModifiers())) {
                StringBuilder types = new StringBuilder();
                for (Class<?> type : method.getParameterTypes()) {
                    types.append(types.length() == 0 ? "" : ",").append(type.getName());
                }
                got.add(method.getReturnType() + " " + method.getName() + "(" + types + ")");
            }
        }
        for (Constructor<?> constructor : NoonWords.class.getDeclaredConstructors()) {
            got.add("new " + constructor.getName() + (constructor.getParameterCount() == 0 ? "()" : "(..)"));
        }
        for (Field field : NoonWords.class.getDeclaredFields()) {
            if (!Modifier.isPrivate(field.getModifiers())) {
                got.add(field.getType() + " " + field.getName());
            }
        }
        if (!got.equals(want)) {
            System.out.println("face: " + got);
        }
        Check.is("1: the face and nothing else", 1, got.equals(want) ? 1 : 0);
    }

    private static void names() {
        Set<String> open = new TreeSet<>();
        for (Method method : NoonWords.class.getDeclaredMethods()) {
            if (Modifier.isPublic(method.getModifiers())) {
                open.add(method.getName());
            }
        }
        List<Class<?>> all = new ArrayList<>(List.of(NoonWords.class.getDeclaredClasses()));
        Check.is("11: some twelve classes", 1, all.size() + 1 <= 12 ? 1 : 0);
        all.add(NoonWords.class);
        for (Class<?> each : all) {
            int fields = 0;
            for (Field field : each.getDeclaredFields()) {
                fields += Modifier.isStatic(field.getModifiers()) ? 0 : 1;
                boolean fixed = !Modifier.isStatic(field.getModifiers()) || Modifier.isFinal(field.getModifiers());
                Check.is("5: static is final: " + field, 1, fixed ? 1 : 0);
            }
            Check.is("11: fields of " + each, 1, fields <= 20 ? 1 : 0);
            for (Method method : each.getDeclaredMethods()) {
                boolean like = open.contains(method.getName()) && !Modifier.isPublic(method.getModifiers());
                Check.is("1: a name of the face: " + method, 0, like ? 1 : 0);
                Check.is("11: at most seven parameters: " + method, 1, method.getParameterCount() <= 7 ? 1 : 0);
            }
        }
    }

    private static void text() throws Exception {
        String source = Files.readString(Path.of("src/main/java/NoonWords.java"));
        String bare = source.replaceAll("(?s)/\\*.*?\\*/", "").replaceAll("//[^\n]*", "")
                .replaceAll("\"(\\\\.|[^\"\\\\])*\"", "\"\"").replaceAll("'(\\\\.|[^'\\\\])'", "' '");
        String[] forbidden = {"->", "::", "finally", "synchronized", "assert ", "catch", "try ", "getMessage", "Exact\\(",
            "double", "float", "hashCode", "\"\" \\+", "\\+ \"\"", "instanceof", "package ", "protected",
            "System\\.(?!arraycopy)", "throw new (?!IllegalStateException|IllegalArgumentException"
                + "|IndexOutOfBoundsException|NoSuchElementException)"};
        for (String each : forbidden) {
            Matcher matcher = Pattern.compile(each).matcher(bare);
            Check.is("no " + each, 0, matcher.find() ? 1 : 0);
        }
        int longest = 0;
        int begun = -1;
        String[] lines = bare.split("\n", -1);
        for (int k = 0; k < lines.length; k++) {
            if (lines[k].matches(" {4}(?: {4})?[a-zA-Z].*[^;]") && !lines[k].contains(" class ")) {
                begun = k;
            }
            if (begun >= 0 && lines[k].matches(" {4}(?: {4})?}")) {
                longest = Math.max(longest, k - begun + 1);
                begun = -1;
            }
        }
        Check.is("11: methods of some sixty lines", 1, longest <= 60 ? 1 : 0);
        Check.is("4: texts of signs 1 to 127", 1, source.chars().allMatch(c -> c > 0 && c < 128) ? 1 : 0);
    }
}
