import java.util.function.Supplier;

/** Promises 34 to 37, sentence by sentence. */
final class WhoseEdges {
    private static final int NOT = GlowDebts.NONE;
    private static final Supplier<GlowDebts> PAIR = () -> Sentences.bankAndRow("l0105 l0105", 0, 5);
    private final Sentences s;

    /** firsts(), kinds() or test(). */
    private interface Look {
        int with(GlowDebts x, int k, int r);
    }

    WhoseEdges(Sentences s) {
        this.s = s;
    }

    void all() {
        firsts();
        kinds();
        test();
        whose();
        whoseRefused();
    }

    private void firsts(String words, int due, int... pairs) {
        GlowDebts x = Sentences.bankAndRow(words, pairs);
        s.is("firsts(0, 0) of '" + words + "' by " + pairs.length, x.firsts(0, 0), due);
    }

    private void firsts() {
        s.test(34, "How BRIGHT at first (bits 0 .. 9) a LIGHT can be by these,", () -> {
            firsts("l0105", 1, 0, 0);
            firsts("l0105", 512, 99, 9);
            firsts("l0105", 0, 0, 10);
            firsts("l0105", 0, 0, 6, 0, 7);
            firsts("j0105", 1, 3, 0);
            firsts("j0105", 2 + 4, 3, 1);
            firsts("j0105", 512, 3, 5);
            firsts("d0105", 1, 19, 19);
            firsts("d0105", 1023, 20, 20);
            firsts("d0105", 1022, 19, 20);
            firsts("f0105", 1, 0, 9);
            firsts("f0105", 512, 1, 1);
            firsts("f0105", 0, 1, 0);
            firsts("o0105", 1, 4, 4);
            firsts("o0105", 1 + 2, 6, 3);
            firsts("m0105", 1023 - 15, 0, 5);
            firsts("m0105", 1023 - 31, 1, 5);
            firsts("m0105", 16, 0, 5, 1, 6);
        });
        s.test(34, "all else as it is.", () -> {
            GlowDebts x = Sentences.bankAndRow("d0105", 0, 7, 3, 10);
            x.answer(0);
            x.night();
            s.is("firsts(0, 0), by its KIND, not by how BRIGHT it is", x.firsts(0, 0), 128);
        });
        refused(34, (x, k, r) -> x.firsts(k, r), 1023);
    }

    private void kinds(String words, int due, int... pairs) {
        GlowDebts x = Sentences.bankAndRow(words, pairs);
        s.is("kinds(0, 0) of '" + words + "' by " + pairs.length, x.kinds(0, 0), due);
    }

    private void kinds() {
        s.test(35, "KINDS (bits) that it can be of by these.", () -> {
            kinds("l0106", 1, 5, 6, 6, 6);
            kinds("m0106", 1 + 4 + 16, 0, 6);
            kinds("l0106", 2 + 8, 0, 3);
            kinds("l0106", 2, 1, 3);
            kinds("l0106", 8, 1, 4);
            kinds("l0106", 32, 0, 5);
            kinds("l0106", 32, 0, 5, 0, 5, 0, 5, 0, 5, 0, 5, 0, 5, 0, 5, 0, 5, 0, 5, 0, 5);
            kinds("l0106", 4, 99, 20);
            kinds("l0106", 16, 99, 10);
            kinds("l0106", 0, 99, 99);
            kinds("l0109", 8, 0, 0);
            GlowDebts x = Sentences.bankAndRow("o0104", 1, 5);
            x.answer(0);
            Sentences.nights(x, 7);
            s.is("kinds(0, 0), by how BRIGHT it is at first", x.kinds(0, 0), 4 + 16);
        });
        refused(35, (x, k, r) -> x.kinds(k, r), 63);
    }

    private void test(String words, int night, int part, int... pairs) {
        GlowDebts x = Sentences.bankAndRow(words, pairs);
        s.asked("test(0, 0) of '" + words + "' by " + pairs.length, x, x.test(0, 0), night, part);
    }

    private void test() {
        s.test(36, "The NIGHT to look (0 .. 20) by which these KINDS are told apart best: the greatest part of those that GLOW "
                + "alike is least (the first);", () -> {
            // of 6: LIGHT 6 6 .., JAR 3, DEW 6 7 .., FORGED 3 4 .., OLD 6 7 8 9 10 5 .., LAMP 5 5 ..
            test("l0106", 5, 1, 0, 6);
            test("l0106", 9, 1);
            test("l0106", 1, 1, 0, 3);
            test("l0106", 0, 1, 5, 6, 6, 6);
            test("l0105", 0, 1, 99, 20);
            // of 9 in NIGHT 0: LIGHT, DEW, OLD 9, JAR, LAMP 5, FORGED 0
            test("l0109", 1, 2);
        });
        s.test(36, "that part by asked().", () -> {
            GlowDebts x = Sentences.bankAndRow("l0103");
            s.asked("test(0, 0) of all KINDS", x, x.test(0, 0), 1, 2);
            Due.lay(x, 0, 0, 3);
            s.asked("test(0, 0) of LIGHT, DEW, OLD", x, x.test(0, 0), 5, 1);
        });
        s.test(36, "NONE: there is no KIND.", () -> {
            GlowDebts x = Sentences.bankAndRow("l0105", 0, 99);
            s.refused("test(0, 0)", x, () -> x.test(0, 0), Sentences.NONE, 0);
            Due.lay(x, 0, 0, 5, 0, 4);
            s.refused("test(0, 0), one for each pair", x, () -> x.test(0, 0), Sentences.NONE, 0);
        });
        refused(36, (x, k, r) -> x.test(k, r), 2);
    }

    /** What firsts(), kinds(), test() are refused for in one way; what they answer of a LIGHT of 5 by no pair. */
    private void refused(int promise, Look look, int byNone) {
        s.test(promise, "BAD;", () -> {
            s.bounds("LIGHT", PAIR, (x, k) -> look.with(x, k, 0), 0, 1);
            s.bounds("ROW", PAIR, (x, r) -> look.with(x, 0, r), 0, 5);
        });
        s.test(promise, "NOTHING;", () -> {
            GlowDebts x = PAIR.get();
            s.found("a missing ROW", x, () -> look.with(x, 0, 5), Sentences.NOTHING);
            x.tear(0);
            s.found("a torn ROW", x, () -> look.with(x, 0, 0), Sentences.NOTHING);
        });
        s.test(promise, promise == 34 ? "SIZE: not by pairs" : "SIZE;", () -> {
            for (int n = 1; n <= 39; n += 2) {
                GlowDebts x = PAIR.get();
                x.row(0, n);
                s.found("a ROW of " + n, x, () -> look.with(x, 0, 0), Sentences.SIZE);
            }
            GlowDebts x = PAIR.get();
            x.row(1, 40);
            s.is("a ROW of 40 is refused", look.with(x, 0, 1) == Sentences.FINDING ? 1 : 0, 0);
        });
        s.test(promise, promise == 34 ? "(a ROW without places is well);" : "SIZE;", () -> {
            GlowDebts x = PAIR.get();
            x.row(3, 0);
            s.is("by no pair", look.with(x, 0, 3), byNone);
        });
        s.test(promise, promise == 34 ? "UNLIKE: a number that is none." : "UNLIKE.", () -> {
            int[][] none = {{-1, 5}, {100, 5}, {0, -1}, {0, 100}, {0, 5, 0, NOT}, {Integer.MIN_VALUE, 5},
                {0, Integer.MAX_VALUE}};
            for (int[] pairs : none) {
                GlowDebts x = PAIR.get();
                Due.lay(x, 2, pairs);
                String what = "by " + pairs[0] + ", " + pairs[1] + " of " + pairs.length;
                s.found(what, x, () -> look.with(x, 0, 2), Sentences.UNLIKE);
            }
            GlowDebts x = PAIR.get();
            Due.lay(x, 2, 99, 99, 0, 0);
            s.is("by 99, 99, 0, 0 is refused", look.with(x, 0, 2) == Sentences.FINDING ? 1 : 0, 0);
        });
        s.test(promise, "(In this order.)", () -> {
            GlowDebts x = PAIR.get();
            Due.lay(x, 0, -1, -1, -1);
            s.bad("no LIGHT, by a missing ROW", x, () -> look.with(x, 2, 5));
            s.bad("no LIGHT, not by pairs", x, () -> look.with(x, -1, 0));
            s.found("a missing ROW", x, () -> look.with(x, 0, 5), Sentences.NOTHING);
            s.found("not by pairs, of what are no numbers", x, () -> look.with(x, 0, 0), Sentences.SIZE);
            Due.lay(x, 0, -1, -1);
            s.found("by what are no numbers, and could not be", x, () -> look.with(x, 0, 0), Sentences.UNLIKE);
        });
    }

    private void whose(String words, int k, int due, int... told) {
        GlowDebts x = Sentences.bankAndRow(words, told);
        s.is("whose(" + k + ", 0) of '" + words + "'", x.whose(k, 0), due);
    }

    private void whose() {
        s.test(37, "PEOPLE (bits) who can be the one who OWES a LIGHT", () -> {
            whose("l0105", 0, 1, 101, NOT, NOT, NOT, NOT, NOT);
            whose("l0105", 0, 32, NOT, NOT, NOT, NOT, NOT, 101);
            whose("l0105", 0, 4 + 8 + 16 + 32, 100, NOT, NOT, NOT, NOT, NOT);
            whose("l0105", 0, 0, 101, NOT, NOT, NOT, NOT, 101);
            whose("l0105 l0205", 0, 1, 102, NOT, NOT, NOT, NOT, NOT);
            whose("l0105 l0205", 1, 1, 102, NOT, NOT, NOT, NOT, NOT);
            whose("l0105 l0205", 1, 2 + 8 + 16 + 32, 101, NOT, NOT, NOT, NOT, NOT);
        });
        s.test(37, "(not whom it is owed to),", () -> {
            whose("l0105", 0, 61, NOT, NOT, NOT, NOT, NOT, NOT);
            whose("l5005", 0, 62, NOT, NOT, NOT, NOT, NOT, NOT);
            whose("l0505", 0, 31, NOT, NOT, NOT, NOT, NOT, NOT);
            whose("l0105", 0, 0, NOT, 100, NOT, NOT, NOT, NOT);
        });
        s.test(37, "all else as it is,", () -> {
            whose("l0105 l1005", 0, 1, 100, 100, 100, 100, 100, 100);
            whose("l0105 l1005", 0, 4, 99, 100, 101, 100, 100, 100);
            // FORGED, or not lit, it counts for nobody: all or none
            whose("f0105 l1005", 0, 61, 99, 101, 100, 100, 100, 100);
            whose("m0105 l1005", 0, 0, 100, 100, 100, 100, 100, 100);
            GlowDebts x = Sentences.bankAndRow("l0105 l1005", 99, 101, 100, 100, 100, 100);
            x.answer(0);
            s.is("whose(0, 0), not lit", x.whose(0, 0), 61);
            Due.lay(x, 0, 100, 100, 100, 100, 100, 100);
            s.is("whose(0, 0), not lit, told of as lit", x.whose(0, 0), 0);
        });
        s.test(37, "by what a ROW tells of owes() of PEOPLE 0 .. 5 (six numbers 0 .. 200; -9: not told).", () -> {
            whose("l0105", 0, 1, 101, 99, 100, 100, 100, 100);
            whose("l0105", 0, 0, 101, 99, 100, 100, 100, 99);
            whose("l0105", 0, 1, 101, NOT, NOT, NOT, NOT, 100);
            whose("l0105", 0, 0, 0, NOT, NOT, NOT, NOT, NOT);
            whose("l0105", 0, 0, 200, NOT, NOT, NOT, NOT, NOT);
            whose("l0105", 0, 0, NOT, NOT, NOT, NOT, NOT, 0);
            whose("l0105", 0, 0, NOT, NOT, NOT, NOT, NOT, 200);
        });
    }

    private void whoseRefused() {
        Supplier<GlowDebts> told = () -> Sentences.bankAndRow("l0105 l0105", 100, 100, 100, 100, 100, 100);
        s.test(37, "BAD;", () -> {
            s.bounds("whose(., 0)", told, (x, k) -> x.whose(k, 0), 0, 1);
            s.bounds("whose(0, .)", told, (x, r) -> x.whose(0, r), 0, 5);
        });
        s.test(37, "NOTHING;", () -> {
            GlowDebts x = told.get();
            s.found("whose(0, 5)", x, () -> x.whose(0, 5), Sentences.NOTHING);
            x.tear(0);
            s.found("whose(0, 0), torn", x, () -> x.whose(0, 0), Sentences.NOTHING);
        });
        s.test(37, "SIZE: not six;", () -> {
            for (int n : new int[] {0, 1, 2, 5, 7, 12, 40}) {
                GlowDebts x = told.get();
                x.row(0, n);
                s.found("whose(0, 0) by " + n, x, () -> x.whose(0, 0), Sentences.SIZE);
            }
        });
        s.test(37, "UNLIKE.", () -> {
            for (int number : new int[] {-1, 201, -8, -10, Integer.MIN_VALUE, Integer.MAX_VALUE}) {
                for (int i : new int[] {0, 5}) {
                    GlowDebts x = told.get();
                    x.lay(0, i, number);
                    s.found("whose(0, 0) by " + number, x, () -> x.whose(0, 0), Sentences.UNLIKE);
                }
            }
        });
        s.test(37, "(In this order.)", () -> {
            GlowDebts x = told.get();
            Due.lay(x, 1, -1, -1, -1);
            s.bad("whose(2, 5)", x, () -> x.whose(2, 5));
            s.bad("whose(2, 1)", x, () -> x.whose(2, 1));
            s.found("whose(0, 5)", x, () -> x.whose(0, 5), Sentences.NOTHING);
            s.found("whose(0, 1), three that are no numbers", x, () -> x.whose(0, 1), Sentences.SIZE);
        });
    }
}
