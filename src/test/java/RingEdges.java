import java.util.function.Supplier;

/** Promises 28 to 33, sentence by sentence. */
final class RingEdges {
    /** Debts 0 to 1, 1 to 2, 2 to 0, 1 to 0; a FORGED one 1 to 0, a LAMP 0 to 3. */
    private static final Supplier<GlowDebts> SIX = () -> Due.bank("l0109 j1209 o2009 d1009 f1009 m0309");
    private final Sentences s;

    RingEdges(Sentences s) {
        this.s = s;
    }

    void all() {
        owes();
        ring();
        rings();
        least();
        chain();
        chainOfLights();
        dim();
    }

    private void owes(GlowDebts x, String which, int... due) {
        for (int one = 0; one < due.length; one++) {
            s.is("owes(" + one + "), " + which, x.owes(one), due[one]);
        }
    }

    private void owes() {
        s.test(28, "How often one OWES, by LIGHTS that are lit and no FORGED ones (nor LAMPS),", () -> {
            GlowDebts x = Due.bank("l0109 j0209 d0309 o0409 f0509 m0509");
            s.is("owes(0)", x.owes(0), 104);
            x.answer(3);
            s.is("owes(0), one answered", x.owes(0), 103);
            x.relight(3);
            s.is("owes(0), lit again", x.owes(0), 104);
            owes(new GlowDebts(), "without LIGHTS", 100, 100, 100, 100, 100, 100);
        });
        s.test(28, "less how often to one is owed, and 100.", () -> {
            GlowDebts x = SIX.get();
            owes(x, "all lit", 99, 101, 100, 100, 100, 100);
            x.answer(0);
            owes(x, "one answered", 98, 102, 100, 100, 100, 100);
            owes(Due.bank("l0509 l0509 l0509 l0509 l0509 l0509 l0509 l0509"), "eight to one", 108, 100, 100, 100, 100, 92);
            owes(Due.bank("f0509 m0509"), "FORGED", 100, 100, 100, 100, 100, 100);
        });
        s.test(28, "BAD.", () -> {
            s.bounds("owes(.)", SIX, (x, one) -> x.owes(one), 0, 5);
            s.bounds("owes(.) without LIGHTS", GlowDebts::new, (x, one) -> x.owes(one), 0, 5);
        });
    }

    private void ring() {
        s.test(29, "Of RINGS that of most LIGHTS", () -> {
            GlowDebts x = SIX.get();
            s.asked("ring()", x, x.ring(), 3, 7);
            GlowDebts all = Due.bank("l0109 l1009 l0109 l1009 l0109 l1009 l0109 l1009");
            s.asked("ring() of all eight", all, all.ring(), 8, 255);
            GlowDebts two = Due.bank("l0109 l2309 l1009 l3209");
            s.asked("ring() of two beside one another", two, two.ring(), 4, 15);
            GlowDebts none = Due.bank("l0109 l1209");
            s.asked("ring() of none", none, none.ring(), 0, 0);
        });
        s.test(29, "(of like ones the least number):", () -> {
            GlowDebts x = Due.bank("l0109 l0109 l1009");
            s.asked("ring(), 5 or 6", x, x.ring(), 2, 5);
            GlowDebts y = Due.bank("l1009 l0109 l0109 l0109");
            s.asked("ring(), 3, 5 or 9", y, y.ring(), 2, 3);
            y.answer(1);
            s.asked("ring(), 5 or 9", y, y.ring(), 2, 5);
        });
        s.test(29, "how many LIGHTS; which by asked().", () -> {
            GlowDebts x = Due.bank("f0109 f1009 l0209 l0109 l1009");
            s.asked("ring() of the last two", x, x.ring(), 2, 8 + 16);
        });
        s.test(29, "STATE: no LIGHTS.", () -> {
            GlowDebts x = new GlowDebts();
            s.refused("ring()", x, x::ring, Sentences.STATE, 0);
            GlowDebts y = Due.bank("l0109");
            y.answer(0);
            s.asked("ring(), none lit", y, y.ring(), 0, 0);
        });
    }

    private void rings() {
        s.test(30, "How many RINGS there are in which a LIGHT is", () -> {
            int[] rings = {2, 1, 1, 1, 0, 0};
            for (int k = 0; k < rings.length; k++) {
                s.is("rings(" + k + ")", SIX.get().rings(k), rings[k]);
            }
            GlowDebts four = Due.bank("l0109 l0109 l0109 l0109 l1009 l1009 l1009 l1009");
            // 1 and 1: 1 * 4, 2 and 2: 3 * 6, 3 and 3: 3 * 4, all: 1
            s.is("rings(0) of four and four", four.rings(0), 4 + 18 + 12 + 1);
            s.is("rings(0) of one alone", Due.bank("l0109").rings(0), 0);
        });
        s.test(30, "(not lit, FORGED: 0).", () -> {
            GlowDebts x = SIX.get();
            s.is("rings(4), FORGED", x.rings(4), 0);
            s.is("rings(5), a LAMP", x.rings(5), 0);
            x.answer(0);
            s.is("rings(0), not lit", x.rings(0), 0);
            s.is("rings(3), the other one not lit", x.rings(3), 0);
            s.is("rings(0) of FORGED ones", Due.bank("f0109 f1009").rings(0), 0);
        });
        s.test(30, "BAD.", () -> {
            s.bounds("rings(.)", SIX, (x, k) -> x.rings(k), 0, 5);
            s.badFor("rings(.) without LIGHTS", GlowDebts::new, (x, k) -> x.rings(k), 0);
        });
    }

    private void least() {
        s.test(31, "The fewest LIGHTS of a RING in which a LIGHT is;", () -> {
            GlowDebts x = SIX.get();
            s.asked("least(0)", x, x.least(0), 2, 1 + 8);
            s.asked("least(1)", x, x.least(1), 3, 7);
            x.answer(3);
            s.asked("least(0), one answered", x, x.least(0), 3, 7);
            GlowDebts six = Due.bank("l0109 l1209 l2309 l3409 l4509 l5009");
            s.asked("least(5), all six", six, six.least(5), 6, 63);
        });
        s.test(31, "which (bits; of like few the least number) by asked().", () -> {
            GlowDebts x = Due.bank("l1009 l0109 l0109 l1009");
            s.asked("least(0), 3 or 5", x, x.least(0), 2, 3);
            s.asked("least(1), 3 or 10", x, x.least(1), 2, 3);
            s.asked("least(2), 5 or 12", x, x.least(2), 2, 5);
            s.asked("least(3), 10 or 12", x, x.least(3), 2, 10);
        });
        s.test(31, "NONE: it is in none.", () -> {
            GlowDebts x = SIX.get();
            s.refused("least(4), FORGED", x, () -> x.least(4), Sentences.NONE, 0);
            s.refused("least(5), a LAMP", x, () -> x.least(5), Sentences.NONE, 0);
            x.answer(0);
            s.refused("least(0), not lit", x, () -> x.least(0), Sentences.NONE, 0);
            s.refused("least(3), owed by none in turn", x, () -> x.least(3), Sentences.NONE, 0);
        });
        s.test(31, "BAD.", () -> {
            s.bounds("least(.)", SIX, (x, k) -> x.least(k), 0, 5);
            s.badFor("least(.) without LIGHTS", GlowDebts::new, (x, k) -> x.least(k), 0);
        });
    }

    private void chain(GlowDebts x, int from, int to, int... lights) {
        String what = "chain(" + from + ", " + to + ", 1)";
        Due.lay(x, 1, 77, 77, 77, 77, 77, 77, 77);
        s.is(what, x.chain(from, to, 1), lights.length);
        s.holds(what, x, 1, lights);
    }

    private void noChain(GlowDebts x, int from, int to) {
        Due.lay(x, 1, 77, 78);
        s.refused("chain(" + from + ", " + to + ", 1)", x, () -> x.chain(from, to, 1), Sentences.NONE, 0);
        s.holds("ROW 1", x, 1, 77, 78);
    }

    private void chain() {
        s.test(32, "By how few LIGHTS (lit, no FORGED ones, nor LAMPS) one OWES somebody who OWES somebody .. who OWES another one",
                () -> {
            GlowDebts x = SIX.get();
            chain(x, 0, 1, 0);
            chain(x, 0, 2, 0, 1);
            chain(x, 1, 0, 3);
            chain(x, 2, 1, 2, 0);
            x.answer(3);
            chain(x, 1, 0, 1, 2);
            x.answer(2);
            noChain(x, 1, 0);
            noChain(x, 0, 3);
            GlowDebts far = Due.bank("l4509 l3409 l2309 l1209 l0109");
            chain(far, 0, 5, 4, 3, 2, 1, 0);
            noChain(far, 5, 0);
        });
        s.test(32, "(0: oneself);", () -> {
            GlowDebts x = SIX.get();
            chain(x, 0, 0);
            chain(x, 5, 5);
            GlowDebts none = new GlowDebts();
            s.is("chain(3, 3, 0) without LIGHTS", none.chain(3, 3, 0), 0);
            s.holds("a ROW that was missing", none, 0);
            s.is("ROWS that are there", none.count(7), 1);
        });
        s.test(32, "which, one behind the other as they OWE, come to a ROW", () -> {
            GlowDebts x = Due.bank("l2309 l0109 l1209");
            chain(x, 0, 3, 1, 2, 0);
        });
        s.test(32, "(anew;", () -> {
            GlowDebts x = Due.bank("l1209 l0109");
            s.is("chain(0, 2, 5), to a ROW that is missing", x.chain(0, 2, 5), 2);
            s.holds("ROW 5", x, 5, 1, 0);
            s.is("chain(1, 2, 5), to a longer one", x.chain(1, 2, 5), 1);
            s.holds("ROW 5", x, 5, 0);
            s.is("chain(0, 2, 5), to a shorter one", x.chain(0, 2, 5), 2);
            s.holds("ROW 5", x, 5, 1, 0);
        });
    }

    private void chainOfLights() {
        s.test(32, "of several chains of as few the one with the lowest first LIGHT, of these that with the lowest second one, "
                + "and so on).", () -> {
            chain(Due.bank("l0109 l0109"), 0, 1, 0);
            chain(Due.bank("l2309 l1309 l0109 l0209"), 0, 3, 2, 1);
            chain(Due.bank("l1309 l2309 l0209 l0109"), 0, 3, 2, 1);
            chain(Due.bank("l0409 l0109 l0209 l2309 l1309 l1309"), 0, 3, 1, 4);
            chain(Due.bank("l0109 l4509 l3509 l1409 l1309 l0209 l2409"), 0, 5, 0, 3, 1);
            chain(Due.bank("l0109 l4509 l3509 l1309 l1409"), 0, 5, 0, 3, 2);
            GlowDebts x = Due.bank("l0109 l0109 l1209 l1209");
            chain(x, 0, 2, 0, 2);
            x.answer(0);
            chain(x, 0, 2, 1, 2);
            x.answer(2);
            chain(x, 0, 2, 1, 3);
        });
        s.test(32, "NONE: by none.", () -> {
            noChain(SIX.get(), 3, 0);
            noChain(SIX.get(), 0, 3);
            noChain(Due.bank("f0109"), 0, 1);
            noChain(Due.bank("m0109"), 0, 1);
            noChain(Due.bank("l1009"), 0, 1);
            GlowDebts x = new GlowDebts();
            s.refused("chain(0, 1, 0) without LIGHTS", x, () -> x.chain(0, 1, 0), Sentences.NONE, 0);
        });
        s.test(32, "BAD.", () -> {
            s.bounds("chain(., 0, 0)", SIX, (x, from) -> x.chain(from, 0, 0), 0, 5);
            s.bounds("chain(0, ., 0)", SIX, (x, to) -> x.chain(0, to, 0), 0, 5);
            s.bounds("chain(0, 1, .)", SIX, (x, r) -> x.chain(0, 1, r), 0, 5);
            s.badFor("chain(., ., 0), oneself", SIX, (x, both) -> x.chain(both, both, 0), -1, 6);
            s.badFor("chain(3, 0, .), by none", SIX, (x, r) -> x.chain(3, 0, r), -1, 6);
            s.badFor("chain(0, 0, .), oneself", SIX, (x, r) -> x.chain(0, 0, r), -1, 6);
        });
    }

    private void dim() {
        s.test(33, "The fewest LIGHTS that are lit to answer", () -> {
            GlowDebts x = Due.bank("l0102 l0109 l0104");
            s.asked("dim(0, 14)", x, x.dim(0, 14), 1, 1);
            s.asked("dim(0, 5)", x, x.dim(0, 5), 2, 3);
            s.asked("dim(0, 0)", x, x.dim(0, 0), 3, 7);
            x.answer(1);
            s.asked("dim(0, 2), one answered", x, x.dim(0, 2), 1, 4);
            s.asked("dim(0, 0), one answered", x, x.dim(0, 0), 2, 5);
            s.is("DEEDS", x.count(2), 1);
            GlowDebts forged = Due.bank("f0100 m0100");
            s.asked("dim(0, 0), FORGED ones, too", forged, forged.dim(0, 0), 2, 3);
        });
        s.test(33, "so that it is as bright as v (0 .. 99), or less, in a PLACE;", () -> {
            GlowDebts x = Due.bank("l0105 l0193");
            s.asked("dim(0, 5), as bright", x, x.dim(0, 5), 0, 0);
            s.asked("dim(0, 6), less", x, x.dim(0, 6), 0, 0);
            s.asked("dim(0, 4)", x, x.dim(0, 4), 1, 1);
            s.asked("dim(9, 2)", x, x.dim(9, 2), 1, 2);
            s.asked("dim(2, 0)", x, x.dim(2, 0), 1, 1);
            s.asked("dim(3, 0)", x, x.dim(3, 0), 0, 0);
            GlowDebts many = Sentences.nights(Due.bank("d0109d0109d0109d0109d0109d0109d0109d0109"), 11);
            s.asked("dim(0, 99) of 160", many, many.dim(0, 99), 4, 15);
            s.asked("dim(0, 0) of 160", many, many.dim(0, 0), 8, 255);
            GlowDebts none = new GlowDebts();
            s.asked("dim(0, 0) without LIGHTS", none, none.dim(0, 0), 0, 0);
        });
        s.test(33, "which (bits; of like few the least number) by asked().", () -> {
            GlowDebts x = Due.bank("l0103 l0105 l0105 l0103");
            s.asked("dim(0, 13), any", x, x.dim(0, 13), 1, 1);
            s.asked("dim(0, 11), 2 or 4", x, x.dim(0, 11), 1, 2);
            s.asked("dim(0, 8), 3, 5, 6, 10 or 12", x, x.dim(0, 8), 2, 3);
            s.asked("dim(0, 7), 6 alone", x, x.dim(0, 7), 2, 6);
        });
        s.test(33, "BAD.", () -> {
            s.bounds("dim(., 0)", SIX, (x, place) -> x.dim(place, 0), 0, 9);
            s.bounds("dim(0, .)", SIX, (x, v) -> x.dim(0, v), 0, 99);
            s.bounds("dim(0, .) without LIGHTS", GlowDebts::new, (x, v) -> x.dim(0, v), 0, 99);
        });
    }
}
