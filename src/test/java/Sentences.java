import java.io.IOException;
import java.nio.file.Files;
import java.nio.file.Path;
import java.util.function.Supplier;
import java.util.regex.Matcher;
import java.util.regex.Pattern;

/**
 * Tests by sentence: each names a promise and words of it, which have to stand in ../shared/DOC.md. At the end there
 * may be no words of a promise left that no test has named. Promise 0 is what the document says ahead of promise 1.
 */
final class Sentences extends Due {
    static final int BAD = GlowDebts.BAD, FULL = GlowDebts.FULL, STATE = GlowDebts.STATE, NONE = GlowDebts.NONE;
    static final int FINDING = GlowDebts.FINDING;
    static final int NOTHING = 1, BEYOND = 2, UNLIKE = 3, NOUGHT = 4, SIZE = 5;
    private static final int PROMISES = 48;

    private final String document;
    private final boolean[] named;
    private final int[] starts = new int[PROMISES + 1];
    private final int[] ends = new int[PROMISES + 1];
    private int tests = 0;

    interface Call {
        long with(GlowDebts x, int number);
    }

    Sentences() throws IOException {
        String whole = Files.readString(Path.of("../shared/DOC.md"));
        document = whole.replaceAll("```(text|java)?", " ").replaceAll("\\s+", " ");
        named = new boolean[document.length()];
        Matcher promises = Pattern.compile("## Promise (\\d+): .*? `[^`]*`: ").matcher(document);
        while (promises.find()) {
            int promise = Integer.parseInt(promises.group(1));
            starts[promise] = promises.end();
            ends[promise] = document.indexOf("## ", promises.end());
        }
        ends[0] = document.indexOf("## Promise 1:");
    }

    /** A test of its own for words of a promise. */
    void test(int promise, String words, Runnable checks) {
        tests++;
        String name = "promise " + promise + ", '" + words + "'";
        if (!findUnnamed(promise, words)) {
            fail(name + " is not what the document says");
        }
        within(name, checks);
    }

    /** Words that stand twice in a promise are named twice. */
    private boolean findUnnamed(int promise, String words) {
        int first = document.indexOf(words, starts[promise]);
        int at = first;
        while (at >= 0 && named[at] && document.indexOf(words, at + 1) >= 0) {
            at = document.indexOf(words, at + 1);
        }
        at = at >= 0 && at + words.length() <= ends[promise] ? at : first;
        if (at < 0 || at + words.length() > ends[promise]) {
            return false;
        }
        for (int i = at; i < at + words.length(); i++) {
            named[i] = true;
        }
        return true;
    }

    void allNamed() {
        within("the document", () -> {
            int terms = document.indexOf("======== ANSWERS");
            unnamedWithin(terms, document.indexOf("Ahead of the calls", terms), "the terms");
            for (int promise = 1; promise <= PROMISES; promise++) {
                is("promise " + promise + " is found", starts[promise] > 0 ? 1 : 0, 1);
                unnamedWithin(starts[promise], ends[promise], "promise " + promise);
            }
        });
        System.out.println(tests + " tests of sentences");
    }

    private void unnamedWithin(int start, int end, String where) {
        StringBuilder left = new StringBuilder();
        for (int i = start; i < end; i++) {
            left.append(named[i] ? '|' : document.charAt(i));
        }
        String words = left.toString().replaceAll("ANSWERS\\.|FINDINGS:|======== [12]|KINDS of LIGHTS and letters:", "")
                .replaceAll("\\|+", "|");
        if (words.matches(".*[A-Za-z0-9].*")) {
            fail("no test names these words of " + where + ": " + words);
        }
    }

    /** A number of a call, from its least to its most: it is BAD beside them, and not BAD at them. */
    void bounds(String what, Supplier<GlowDebts> made, Call call, int least, int most) {
        badFor(what, made, call, least - 1, most + 1, Integer.MIN_VALUE, Integer.MAX_VALUE);
        for (int number : new int[] {least, most}) {
            GlowDebts x = made.get();
            is(what + " " + number + " is BAD", call.with(x, number) == BAD ? 1 : 0, 0);
        }
    }

    void badFor(String what, Supplier<GlowDebts> made, Call call, int... numbers) {
        for (int number : numbers) {
            GlowDebts x = made.get();
            bad(what + " " + number, x, () -> call.with(x, number));
        }
    }

    /** A NIGHT passes so often. */
    static GlowDebts nights(GlowDebts x, int n) {
        for (int i = 0; i < n; i++) {
            x.night();
        }
        return x;
    }

    /** A new object with a bank by words, and a ROW 0 by numbers. */
    static GlowDebts bankAndRow(String words, int... numbers) {
        GlowDebts x = bank(words);
        lay(x, 0, numbers);
        return x;
    }
}
