import java.io.IOException;
import java.lang.reflect.Field;
import java.lang.reflect.Method;
import java.lang.reflect.Modifier;
import java.nio.file.Files;
import java.nio.file.Path;
import java.util.Arrays;
import java.util.Set;
import java.util.TreeSet;
import java.util.regex.Matcher;
import java.util.regex.Pattern;
import java.util.stream.Collectors;
import java.util.stream.Stream;

/** README.md tells nothing that isn't so: the answers of its example, the calls, the refusals, the tests. */
final class ReadmeTest {
    private static final Due due = new Due();

    public static void main(String[] args) throws IOException, ReflectiveOperationException {
        String page = Files.readString(Path.of("README.md"));
        example(page);
        calls(page);
        refusals(page);
        tests(page);
        due.end("ReadmeTest");
    }

    /** The lines of the example in their order: a call, and behind it the number that it answers. */
    private static void example(String page) throws ReflectiveOperationException {
        String code = page.substring(page.indexOf("```java"), page.indexOf("```\n", page.indexOf("```java")));
        Matcher words = Pattern.compile("String words = \"([^\"]*)\";").matcher(code);
        due.is("the example tells a bank", words.find() ? 1 : 0, 1);
        GlowDebts x = new GlowDebts();
        Due.write(x, 0, words.group(1));
        Matcher line = Pattern.compile("x\\.(\\w+)\\(([-0-9, ]*)\\); +// (-?\\d+): ").matcher(code);
        int lines = 0;
        while (line.find()) {
            due.is("README.md, " + line.group(1) + "(" + line.group(2) + ")",
                    answer(x, line.group(1), line.group(2)), Long.parseLong(line.group(3)));
            lines++;
        }
        long written = code.lines().filter(one -> one.matches("x\\..*")).count();
        due.is("lines of the example, text() among them, that were run", lines + 1, written);
    }

    private static long answer(GlowDebts x, String name, String list) throws ReflectiveOperationException {
        Object[] numbers = Pattern.compile("-?\\d+").matcher(list).results()
                .map(number -> Integer.valueOf(number.group())).toArray();
        Class<?>[] ints = new Class<?>[numbers.length];
        Arrays.fill(ints, int.class);
        return ((Number) GlowDebts.class.getMethod(name, ints).invoke(x, numbers)).longValue();
    }

    private static void same(String what, Set<String> got, Set<String> want) {
        if (!got.equals(want)) {
            System.out.println(what + ": " + got + ", due is " + want);
        }
        due.is(what, got.equals(want) ? 1 : 0, 1);
    }

    /** The names between `` ` `` in the first column of the table under a heading. */
    private static Set<String> table(String page, String heading) {
        Set<String> names = new TreeSet<>();
        int start = page.indexOf(heading);
        due.is("the table " + heading, start >= 0 ? 1 : 0, 1);
        page.substring(Math.max(0, start)).lines().takeWhile(line -> line.startsWith("|")).forEach(line -> {
            Matcher name = Pattern.compile("`(\\w+)`( -\\d+)?").matcher(line.split("\\|")[1]);
            while (name.find()) {
                names.add(name.group(1) + (name.group(2) == null ? "" : name.group(2)));
            }
        });
        return names;
    }

    private static void calls(String page) {
        Set<String> face = Arrays.stream(GlowDebts.class.getDeclaredMethods())
                .filter(method -> Modifier.isPublic(method.getModifiers()))
                .map(Method::getName).collect(Collectors.toCollection(TreeSet::new));
        same("the calls that README.md names", table(page, "| calls |"), face);
    }

    private static void refusals(String page) throws IllegalAccessException {
        Set<String> constants = new TreeSet<>();
        for (Field field : GlowDebts.class.getFields()) {
            constants.add(field.getName() + " " + field.getInt(null));
        }
        same("the refusals that README.md names", table(page, "| answer |"), constants);
    }

    private static void tests(String page) throws IOException {
        try (Stream<Path> files = Files.list(Path.of("src/test/java"))) {
            Set<String> there = files.map(file -> file.getFileName().toString())
                    .filter(name -> name.endsWith("Test.java")).map(name -> name.replace(".java", ""))
                    .collect(Collectors.toCollection(TreeSet::new));
            same("the tests that README.md names", table(page, "| test |"), there);
        }
    }
}
