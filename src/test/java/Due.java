import java.util.function.LongSupplier;

/** Compares what a program answers with what is due, and ends a test. */
class Due {
    private String heading = "";
    private int right = 0;
    private int wrong = 0;

    void is(String what, long got, long due) {
        if (got == due) {
            right++;
        } else {
            fail(what + " answered " + got + ", due is " + due);
        }
    }

    void fail(String what) {
        wrong++;
        if (wrong <= 20) {
            System.out.println(heading + what);
        }
    }

    /** A test of its own within another one: it is named with whatever is wrong in it, and looks at something. */
    void within(String name, Runnable checks) {
        int before = right + wrong;
        heading = name + ": ";
        checks.run();
        if (right + wrong == before) {
            fail("looks at nothing");
        }
        heading = "";
    }

    /** A call that tells by asked(). */
    void asked(String what, GlowDebts x, long got, long due, long told) {
        is(what, got, due);
        is(what + ", asked()", x.asked(), told);
    }

    /** A call that tells by upper(), lower(). */
    void chance(String what, GlowDebts x, long got, long upper, long lower) {
        is(what, got, 1);
        is(what + ", upper()", x.upper(), upper);
        is(what + ", lower()", x.lower(), lower);
    }

    /** A call that is refused: nothing changes but what is told of findings. 0: without a finding. */
    void refused(String what, GlowDebts x, LongSupplier call, long due, int finding) {
        long digest = x.digest();
        int asked = x.asked();
        long upper = x.upper();
        long lower = x.lower();
        int latest = x.finding();
        int[] before = findings(x);
        is(what, call.getAsLong(), due);
        is(what + ", digest() behind it", x.digest(), digest);
        is(what + ", asked() behind it", x.asked(), asked);
        is(what + ", upper() behind it", x.upper(), upper);
        is(what + ", lower() behind it", x.lower(), lower);
        is(what + ", finding() behind it", x.finding(), finding == 0 ? latest : finding);
        int[] after = findings(x);
        for (int f = 1; f <= 5; f++) {
            is(what + ", findings(" + f + ") behind it", after[f], before[f] + (f == finding ? 1 : 0));
        }
    }

    void bad(String what, GlowDebts x, LongSupplier call) {
        refused(what, x, call, GlowDebts.BAD, 0);
    }

    void found(String what, GlowDebts x, LongSupplier call, int finding) {
        refused(what, x, call, GlowDebts.FINDING, finding);
    }

    private static int[] findings(GlowDebts x) {
        int[] all = new int[6];
        for (int f = 1; f <= 5; f++) {
            all[f] = x.findings(f);
        }
        return all;
    }

    /** A new object with a bank by words (TEXT 0). */
    static GlowDebts bank(String words) {
        GlowDebts x = new GlowDebts();
        write(x, 0, words);
        x.bank(0);
        return x;
    }

    static void write(GlowDebts x, int t, String words) {
        x.text(t, words.length());
        for (int i = 0; i < words.length(); i++) {
            x.put(t, i, words.charAt(i));
        }
    }

    static void lay(GlowDebts x, int r, int... numbers) {
        x.row(r, numbers.length);
        for (int i = 0; i < numbers.length; i++) {
            x.lay(r, i, numbers[i]);
        }
    }

    /** What a ROW holds, told apart from another one by its text. */
    void holds(String what, GlowDebts x, int r, int... numbers) {
        for (int i = 0; i < numbers.length; i++) {
            asked(what + ", place " + i, x, x.at(r, i), 1, numbers[i]);
        }
        int size = numbers.length;
        is(what + ", the place behind its last one", x.at(r, size), GlowDebts.FINDING);
        is(what + ", which is beyond", x.finding(), 2);
    }

    void end(String test) {
        System.out.println(test + ": " + right + " answers as due, " + wrong + " not");
        if (wrong != 0 || right == 0) {
            System.exit(1);
        }
    }
}
