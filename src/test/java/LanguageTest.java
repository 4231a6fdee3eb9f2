import java.lang.reflect.Constructor;
import java.lang.reflect.Executable;
import java.lang.reflect.Field;
import java.lang.reflect.Method;
import java.lang.reflect.Modifier;
import java.nio.charset.StandardCharsets;
import java.nio.file.Files;
import java.nio.file.Path;
import java.util.Arrays;
import java.util.List;
import java.util.Set;
import java.util.TreeSet;
import java.util.regex.Matcher;
import java.util.regex.Pattern;

/** Rules of LANGUAGE.md that can be looked up in the source or the class; and the document's face. */
public final class LanguageTest {
    private static final Checks C = new Checks();

    private static final String FACE = "int feed(int,int,int,int,int) int river(int) int fault(int) int span(int)"
        + " int person(int,int) int why(int,int) int act(int,int) int tell(int,int) int fog(int) int hours(int)"
        + " int undo(int) int judge(int,int) int perform(int) int year(int,int) int soonest(int,int)"
        + " int way(int,int,int) long ways(int,int,int) int reach(int,int) int meet(int,int) int meetAt(int,int)"
        + " int inTime() int spare(int) int needs(int) int moves() int best(int) int change() int weeks() int shift()"
        + " int fits(int,int,int) int surest(int,int) int odd(int,int) long chance(int,int,int,int)"
        + " int likely(int,int,int) int numbers(int,int,int) long write(int,int,long) int lists(int,int,int)"
        + " int image(int) int restore(int) int count(int)";

    public static void main(String[] args) throws Exception {
        String source = Files.readString(Path.of("src/main/java/MovedSpan.java"), StandardCharsets.ISO_8859_1);
        face();
        classes();
        words(source);
        lengths(source.split("\n"));
        C.end("LanguageTest");
    }

    private static void face() {
        C.topic("rule 1");
        Set<String> due = new TreeSet<>();
        Matcher m = Pattern.compile("\\w+ \\w+\\([^)]*\\)").matcher(FACE);
        while (m.find()) {
            due.add(m.group());
        }
        Set<String> has = new TreeSet<>();
        for (Method method : MovedSpan.class.getDeclaredMethods()) {
            if (!Modifier.isPrivate(method.getModifiers())) {
                String types = String.join(",", Arrays.stream(method.getParameterTypes()).map(Class::getName).toList());
                has.add(method.getReturnType() + " " + method.getName() + "(" + types + ")");
                C.holds(method + " is public", Modifier.isPublic(method.getModifiers()));
            }
        }
        C.holds("the face is " + has, has.equals(due));
        C.holds("the class is public and final", MovedSpan.class.getModifiers() == (Modifier.PUBLIC | Modifier.FINAL));
        for (Field field : MovedSpan.class.getDeclaredFields()) {
            C.holds(field + " is private", field.getName().equals("NONE") || Modifier.isPrivate(field.getModifiers()));
        }
        for (Constructor<?> c : MovedSpan.class.getDeclaredConstructors()) {
            C.holds(c + " is the public one", Modifier.isPublic(c.getModifiers()) && c.getParameterCount() == 0);
        }
    }

    private static void classes() {
        Class<?>[] inside = MovedSpan.class.getDeclaredClasses();
        C.topic("rule 11");
        C.holds("at most 12 classes", inside.length + 1 <= 12);
        Set<String> publicNames = new TreeSet<>();
        for (Method method : MovedSpan.class.getDeclaredMethods()) {
            if (Modifier.isPublic(method.getModifiers())) {
                publicNames.add(method.getName());
            }
        }
        members(MovedSpan.class, publicNames, false);
        for (Class<?> one : inside) {
            C.topic("rule 2");
            C.holds(one + " is static and not public", Modifier.isStatic(one.getModifiers())
                && !Modifier.isPublic(one.getModifiers()) && !Modifier.isProtected(one.getModifiers()));
            members(one, publicNames, true);
        }
    }

    private static void members(Class<?> one, Set<String> publicNames, boolean inside) {
        C.topic("rules 1, 5, 11 in " + one.getSimpleName());
        int fields = 0;
        for (Field field : one.getDeclaredFields()) {
            boolean isStatic = Modifier.isStatic(field.getModifiers());
            fields += isStatic ? 0 : 1;
            C.holds(field + " is final", !isStatic || Modifier.isFinal(field.getModifiers()));
            C.holds(field + " is of a kind that may be static", !isStatic
                || List.of("int", "long", "boolean", "char", "String").contains(field.getType().getSimpleName()));
        }
        C.holds("at most 20 fields", fields <= 20);
        for (Executable e : one.getDeclaredMethods()) {
            C.holds(e + " has at most seven parameters", e.getParameterCount() <= 7);
            C.holds(e + " bears a name of its own", !inside && Modifier.isPublic(e.getModifiers())
                || !publicNames.contains(e.getName()));
        }
    }

    private static void words(String source) {
        C.topic("rules 3, 4, 6, 13");
        for (int i = 0; i < source.length(); i++) {
            if (source.charAt(i) != 10 && (source.charAt(i) < 32 || source.charAt(i) > 126)) {
                C.due("sign at " + i, source.charAt(i), 32);
            }
        }
        String code = source.replaceAll("(?s)/\\*.*?\\*/", " ").replaceAll("//[^\n]*", " ").replaceAll("\"[^\"]*\"", "\"\"");
        String forbidden = "\\b(throw|throws|try|catch|finally|synchronized|assert|double|float|Object|Thread|Random|var|package"
            + "|equals|hashCode|toString|getClass|native|volatile|transient|yield|\\w+Exact|Exception|protected)\\b|->|::|@|\\.\\.\\.";
        Matcher m = Pattern.compile(forbidden).matcher(code);
        while (m.find()) {
            C.holds("no " + m.group(), false);
        }
        library(code, "import ([\\w.]+);", "java.util.Arrays");
        library(code, "System\\.(\\w+)", "arraycopy");
        library(code, "Arrays\\.(\\w+)", "fill");
        library(code, "Math\\.(\\w+)", "max", "min");
        library(code, "Integer\\.(\\w+)", "bitCount", "numberOfTrailingZeros");
        C.holds("no text is joined by +", !Pattern.compile("\"\\s*\\+|\\+\\s*\"").matcher(code).find());
    }

    private static void library(String code, String pattern, String... allowed) {
        Matcher m = Pattern.compile(pattern).matcher(code);
        while (m.find()) {
            C.holds(m.group() + " is in the library", List.of(allowed).contains(m.group(1)));
        }
    }

    private static void lengths(String[] lines) {
        C.topic("rule 11");
        for (int i = 0; i < lines.length; i++) {
            if (lines[i].matches(" {4}( {4})?[a-z].*\\) \\{")) {
                String end = lines[i].replaceAll("\\S.*", "") + "}";
                int length = 1;
                while (i + length < lines.length && !lines[i + length].equals(end)) {
                    length++;
                }
                C.holds(lines[i].trim() + " has at most 60 lines", length < 60);
            }
            C.holds("line " + (i + 1) + " has at most 120 signs", lines[i].length() <= 120);
        }
    }
}
