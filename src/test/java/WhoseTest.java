/** Promises 34 to 37: whose a light is. */
final class WhoseTest {
    private static final int NOTHING = 1, UNLIKE = 3, SIZE = 5;
    private static final int NONE = GlowDebts.NONE;
    private static final Due due = new Due();

    public static void main(String[] args) {
        firsts();
        kinds();
        test();
        refusals();
        whose();
        due.end("WhoseTest");
    }

    private static void firsts(String words, int bits, int... pairs) {
        GlowDebts x = Due.bank(words);
        Due.lay(x, 1, pairs);
        due.is("firsts of '" + words + "'", x.firsts(0, 1), bits);
    }

    private static void firsts() {
        firsts("l0100", 1023);
        firsts("l0100", 64, 0, 6);
        firsts("l0100", 0, 0, 6, 1, 7);
        firsts("j0100", 32 + 64, 99, 3);
        firsts("d0100", 16, 0, 4, 3, 7);
        firsts("d0100", 1023, 20, 20);
        firsts("d0100", 1023 - 511, 11, 20);
        firsts("f0100", 8, 1, 7);
        firsts("f0100", 8, 98, 6, 99, 7);
        firsts("f0100", 1, 1, 10);
        firsts("o0100", 8 + 16, 5, 4);
        firsts("o0100", 16, 5, 4, 4, 8);
        firsts("m0100", 1008, 0, 5);
        firsts("m0100", 992, 0, 5, 1, 5);
        firsts("m0100", 0, 0, 99);
    }

    private static void kinds(String words, int bits, int... pairs) {
        GlowDebts x = Due.bank(words);
        Due.lay(x, 1, pairs);
        due.is("kinds of '" + words + "'", x.kinds(0, 1), bits);
    }

    private static void kinds() {
        kinds("l0106", 63);
        kinds("m0106", 1 + 4 + 16, 0, 6);
        kinds("l0106", 2 + 8, 0, 3);
        kinds("l0106", 2, 0, 3, 1, 3);
        kinds("l0106", 8, 0, 3, 1, 4);
        kinds("l0106", 32, 0, 5);
        kinds("l0106", 4 + 16, 4, 10);
        kinds("l0106", 16, 4, 10, 5, 5);
        kinds("l0106", 4, 99, 20);
        kinds("l0106", 0, 0, 6, 0, 3);
        GlowDebts x = Due.bank("d0104");
        x.night();
        x.night();
        x.answer(0);
        Due.lay(x, 0, 1, 5);
        due.is("kinds by NIGHTS from 0, answered", x.kinds(0, 0), 4 + 16);
    }

    private static void test(String words, int night, int part, int... pairs) {
        GlowDebts x = Due.bank(words);
        Due.lay(x, 1, pairs);
        due.asked("test of '" + words + "'", x, x.test(0, 1), night, part);
    }

    private static void test() {
        test("l0106", 5, 1, 0, 6);
        test("l0102", 1, 2);
        test("l0106", 0, 1, 4, 10, 5, 5);
        test("l0106", 1, 1, 0, 3);
        test("l0105", 5, 1, 4, 9);
        test("l0106", 0, 1, 4, 6);
        GlowDebts x = Due.bank("l0106");
        Due.lay(x, 0, 0, 6);
        x.test(0, 0);
        Due.lay(x, 1, 0, 99);
        x.at(0, 1);
        due.refused("test of no KIND", x, () -> x.test(0, 1), NONE, 0);
    }

    /** The refusals that firsts(), kinds(), test() share. */
    private static void refusals() {
        GlowDebts x = Due.bank("l0106");
        Due.lay(x, 0, 0, 6, 0);
        Due.lay(x, 1, 100, 6);
        Due.lay(x, 2, 0, -1);
        Due.lay(x, 3, -1);
        Due.lay(x, 4, 0, 100);
        for (int call = 0; call < 3; call++) {
            int which = call;
            due.bad("no LIGHT, a missing ROW, call " + call, x, () -> look(x, which, 1, 5));
            due.bad("LIGHT -1, call " + call, x, () -> look(x, which, -1, 1));
            due.bad("ROW 6, call " + call, x, () -> look(x, which, 0, 6));
            due.bad("ROW -1, call " + call, x, () -> look(x, which, 0, -1));
            due.found("a missing ROW, call " + call, x, () -> look(x, which, 0, 5), NOTHING);
            due.found("not by pairs, call " + call, x, () -> look(x, which, 0, 0), SIZE);
            due.found("NIGHT 100, call " + call, x, () -> look(x, which, 0, 1), UNLIKE);
            due.found("glow -1, call " + call, x, () -> look(x, which, 0, 2), UNLIKE);
            due.found("not by pairs, not numbers, call " + call, x, () -> look(x, which, 0, 3), SIZE);
            due.found("glow 100, call " + call, x, () -> look(x, which, 0, 4), UNLIKE);
        }
    }

    private static int look(GlowDebts x, int call, int k, int r) {
        switch (call) {
            case 0: return x.firsts(k, r);
            case 1: return x.kinds(k, r);
            default: return x.test(k, r);
        }
    }

    private static void whose() {
        // owes() of PEOPLE 0 .. 5 is 99, 101, 100, 100, 100, 100
        GlowDebts x = Due.bank("l0109 j1209 o2009 d1009 f1009");
        Due.lay(x, 0, NONE, NONE, NONE, NONE, NONE, NONE);
        due.is("whose(1), nothing told", x.whose(1, 0), 63 - 4);
        due.is("whose(4), nothing told", x.whose(4, 0), 63 - 1);
        Due.lay(x, 0, 99, 101, 100, 100, 100, 100);
        due.is("whose(1), as it is", x.whose(1, 0), 2);
        due.is("whose(4), forged, as it is", x.whose(4, 0), 62);
        Due.lay(x, 0, NONE, 100, NONE, NONE, NONE, NONE);
        due.is("whose(1), not of 1", x.whose(1, 0), 1 + 8 + 16 + 32);
        due.is("whose(4), forged, not as it is", x.whose(4, 0), 0);
        Due.lay(x, 0, NONE, NONE, NONE, 101, NONE, NONE);
        due.is("whose(1), of 3", x.whose(1, 0), 8);
        due.is("whose(0), of 3", x.whose(0, 0), 8);
        Due.lay(x, 0, NONE, NONE, 101, NONE, NONE, NONE);
        due.is("whose(1), not whom it is owed to", x.whose(1, 0), 0);
        Due.lay(x, 0, 100, 100, NONE, NONE, NONE, NONE);
        due.is("whose(1), of 0", x.whose(1, 0), 1);
        x.answer(1);
        Due.lay(x, 0, 99, 100, 101, 100, 100, 100);
        due.is("whose(1), answered, as it is", x.whose(1, 0), 59);
        Due.lay(x, 0, 100, 100, 101, 100, 100, 100);
        due.is("whose(1), answered, not as it is", x.whose(1, 0), 0);
        Due.lay(x, 1, 0, 200, NONE, 0, 200, NONE);
        due.is("whose(1), numbers at their bounds", x.whose(1, 1), 0);
        whoseRefused(x);
    }

    private static void whoseRefused(GlowDebts x) {
        Due.lay(x, 1, 0, 0, 0, 0, 0, 201);
        Due.lay(x, 2, -1, 0, 0, 0, 0, 0);
        Due.lay(x, 3, -10, 0, 0, 0, 0);
        Due.lay(x, 4, 0, 0, 0, 0, 0, 0, 0);
        due.bad("whose(5, 5)", x, () -> x.whose(5, 5));
        due.bad("whose(-1, 0)", x, () -> x.whose(-1, 0));
        due.bad("whose(0, 6)", x, () -> x.whose(0, 6));
        due.bad("whose(0, -1)", x, () -> x.whose(0, -1));
        due.found("whose by a missing ROW", x, () -> x.whose(0, 5), NOTHING);
        due.found("whose by five", x, () -> x.whose(0, 3), SIZE);
        due.found("whose by seven", x, () -> x.whose(0, 4), SIZE);
        due.found("whose by 201", x, () -> x.whose(0, 1), UNLIKE);
        due.found("whose by -1", x, () -> x.whose(0, 2), UNLIKE);
    }
}
