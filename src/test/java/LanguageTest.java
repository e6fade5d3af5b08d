import java.io.IOException;
import java.lang.reflect.Constructor;
import java.lang.reflect.Field;
import java.lang.reflect.Method;
import java.lang.reflect.Modifier;
import java.nio.file.Files;
import java.nio.file.Path;
import java.util.Arrays;
import java.util.Set;
import java.util.TreeSet;
import java.util.regex.Matcher;
import java.util.regex.Pattern;
import java.util.stream.Collectors;

/** The public face as ../shared/DOC.md tells it, and what of ../shared/LANGUAGE.md can be seen without a compiler. */
final class LanguageTest {
    private static final Due due = new Due();

    public static void main(String[] args) throws IOException {
        String document = Files.readString(Path.of("../shared/DOC.md"));
        String source = Files.readString(Path.of("src/main/java/GlowDebts.java"));
        face(document);
        shape();
        words(source.replaceAll("(?s)/\\*.*?\\*/", " ").replaceAll("//[^\\n]*", " "));
        lengths(source);
        due.end("LanguageTest");
    }

    private static void same(String what, Set<String> got, Set<String> want) {
        if (!got.equals(want)) {
            System.out.println(what + ": " + got + ", due is " + want);
        }
        due.is(what, got.equals(want) ? 1 : 0, 1);
    }

    private static void face(String document) {
        Set<String> want = new TreeSet<>();
        Matcher calls = Pattern.compile("public (int|long) (\\w+)\\(([^)]*)\\);").matcher(document);
        while (calls.find()) {
            int numbers = calls.group(3).isEmpty() ? 0 : calls.group(3).split(",").length;
            want.add(calls.group(1) + " " + calls.group(2) + " " + numbers);
        }
        Set<String> got = new TreeSet<>();
        Set<String> hidden = new TreeSet<>();
        for (Method method : GlowDebts.class.getDeclaredMethods()) {
            if (Modifier.isPublic(method.getModifiers())) {
                got.add(method.getReturnType() + " " + method.getName() + " " + method.getParameterCount());
            } else {
                hidden.add(method.getName());
            }
        }
        due.is("calls of the face", want.size(), 47);
        same("the face", got, want);
        Set<String> names = want.stream().map(w -> w.split(" ")[1]).collect(Collectors.toCollection(TreeSet::new));
        for (Class<?> inside : GlowDebts.class.getDeclaredClasses()) {
            Arrays.stream(inside.getDeclaredMethods()).forEach(method -> hidden.add(method.getName()));
        }
        hidden.retainAll(names);
        same("hidden calls that bear a public name", hidden, Set.of());
        Set<String> constants = new TreeSet<>();
        for (Field field : GlowDebts.class.getDeclaredFields()) {
            if (!Modifier.isPrivate(field.getModifiers())) {
                constants.add(Modifier.toString(field.getModifiers()) + " " + field.getType() + " " + field.getName());
            }
        }
        same("the constants", constants, Arrays.stream("BAD FULL FINDING STATE SPENT NONE".split(" "))
                .map(name -> "public static final int " + name).collect(Collectors.toSet()));
        for (Constructor<?> made : GlowDebts.class.getDeclaredConstructors()) {
            due.is("the constructor", Modifier.isPublic(made.getModifiers()) ? made.getParameterCount() : -1, 0);
        }
        due.is("the class", GlowDebts.class.getModifiers(), Modifier.PUBLIC | Modifier.FINAL);
    }

    private static void shape() {
        Class<?>[] inside = GlowDebts.class.getDeclaredClasses();
        due.is("some twelve classes", inside.length + 1 <= 12 ? 1 : 0, 1);
        shapeOf(GlowDebts.class);
        for (Class<?> one : inside) {
            due.is(one + " is static", Modifier.isStatic(one.getModifiers()) ? 1 : 0, 1);
            due.is(one + " is hidden", Modifier.isPublic(one.getModifiers()) ? 1 : 0, 0);
            shapeOf(one);
        }
    }

    private static void shapeOf(Class<?> one) {
        int fields = 0;
        for (Field field : one.getDeclaredFields()) {
            boolean kept = Modifier.isStatic(field.getModifiers());
            fields += kept ? 0 : 1;
            due.is(field + " is final, if static", !kept || Modifier.isFinal(field.getModifiers()) ? 1 : 0, 1);
        }
        due.is(one + " has some twenty fields", fields <= 20 ? 1 : 0, 1);
        for (Method method : one.getDeclaredMethods()) {
            due.is(method + " takes seven numbers at most", method.getParameterCount() <= 7 ? 1 : 0, 1);
        }
    }

    private static void words(String code) {
        String banned = "\\b(throw|throws|try|catch|synchronized|assert|import|package|volatile|native|record|"
                + "equals|hashCode|toString|Object|Thread|Random|\\w+Exact)\\b|->|::|static\\s*\\{|\"|"
                + "\\bSystem\\.(?!arraycopy\\b)|\\bMath\\.(?!(min|max|abs)\\b)|\\bInteger\\.(?!bitCount\\b)";
        Matcher word = Pattern.compile(banned).matcher(code);
        due.is("a banned word" + (word.find() ? ": " + word.group() : ""), word.reset().find() ? 1 : 0, 0);
    }

    private static void lengths(String source) {
        String[] lines = source.split("\\n");
        int start = 0;
        for (int i = 0; i < lines.length; i++) {
            due.is("signs of line " + (i + 1), lines[i].chars().allMatch(c -> c >= 32 && c < 127) ? 1 : 0, 1);
            if (lines[i].matches("( {4}| {8})[^ }/*].*\\) \\{")) {
                start = i;
            } else if (lines[i].matches("( {4}| {8})\\}")) {
                due.is("lines of the method from line " + (start + 1), i - start <= 60 ? 1 : 0, 1);
                start = i;
            }
        }
    }
}
