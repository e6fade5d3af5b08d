import java.util.function.Supplier;

/** Promises 22 to 27, sentence by sentence. */
final class BrightEdges {
    /** From PLACE 0 to 9 it is as bright as 2, 4, 7, 7, 7, 7, 5, 3, 1, 0. */
    private static final Supplier<GlowDebts> TWO = () -> Due.bank("l0126 l1057");
    private static final int[] BRIGHT = {2, 4, 7, 7, 7, 7, 5, 3, 1, 0};
    private final Sentences s;

    BrightEdges(Sentences s) {
        this.s = s;
    }

    void all() {
        bright();
        along();
        when();
        stow();
        dark();
        road();
    }

    private static GlowDebts answered() {
        GlowDebts x = TWO.get();
        x.answer(0);
        x.answer(1);
        return x;
    }

    private void bright() {
        s.test(22, "How bright it is in a PLACE.", () -> {
            GlowDebts x = TWO.get();
            for (int place = 0; place <= 9; place++) {
                s.is("bright(" + place + ")", x.bright(place), BRIGHT[place]);
            }
            s.is("bright(0), all answered", answered().bright(0), 0);
            s.is("bright(0) without LIGHTS", new GlowDebts().bright(0), 0);
        });
        s.test(22, "BAD.", () -> {
            s.bounds("bright(.)", TWO, (x, place) -> x.bright(place), 0, 9);
            s.bounds("bright(.) without LIGHTS", GlowDebts::new, (x, place) -> x.bright(place), 0, 9);
        });
    }

    private void along() {
        s.test(23, "How bright it is in all PLACES from one on up to another one (both, to as much or more) together.", () -> {
            GlowDebts x = TWO.get();
            s.is("along(0, 9)", x.along(0, 9), 43);
            s.is("along(0, 0)", x.along(0, 0), 2);
            s.is("along(9, 9)", x.along(9, 9), 0);
            s.is("along(5, 8)", x.along(5, 8), 16);
            s.is("along(0, 9) without LIGHTS", new GlowDebts().along(0, 9), 0);
            s.bad("along(5, 4)", x, () -> x.along(5, 4));
            s.bad("along(9, 0)", x, () -> x.along(9, 0));
        });
        s.test(23, "BAD.", () -> {
            s.bounds("along(., 9)", TWO, (x, from) -> x.along(from, 9), 0, 9);
            s.bounds("along(0, .)", TWO, (x, to) -> x.along(0, to), 0, 9);
            s.badFor("along(., .)", TWO, (x, both) -> x.along(both, both), -1, 10);
        });
    }

    private void when() {
        s.test(24, "In how many NIGHTS (0 .. 40)", () -> {
            GlowDebts x = Due.bank("d0105");
            s.asked("when(0, 5)", x, x.when(0, 5), 0, 5);
            s.asked("when(0, 6)", x, x.when(0, 6), 1, 6);
            s.asked("when(0, 20)", x, x.when(0, 20), 15, 20);
            GlowDebts y = Due.bank("d0100");
            s.asked("when(0, 20) of 0 at first", y, y.when(0, 20), 20, 20);
        });
        s.test(24, "it is as bright as v (0 .. 200), or more,", () -> {
            GlowDebts x = Due.bank("l0105");
            s.asked("when(0, 0)", x, x.when(0, 0), 0, 5);
            s.asked("when(0, 4)", x, x.when(0, 4), 0, 5);
            s.asked("when(0, 5)", x, x.when(0, 5), 0, 5);
            s.refused("when(0, 6)", x, () -> x.when(0, 6), Sentences.NONE, 0);
            s.refused("when(0, 200)", x, () -> x.when(0, 200), Sentences.NONE, 0);
            s.bad("when(0, 201)", x, () -> x.when(0, 201));
            s.bad("when(0, -1)", x, () -> x.when(0, -1));
            GlowDebts most = Due.bank("d0109d0109d0109d0109d0109d0109d0109d0109");
            s.asked("when(0, 160)", most, most.when(0, 160), 11, 160);
            s.refused("when(0, 161)", most, () -> most.when(0, 161), Sentences.NONE, 0);
        });
        s.test(24, "in a PLACE first,", () -> {
            GlowDebts x = Due.bank("f0109");
            s.asked("when(0, 1), as in each NIGHT of an odd number", x, x.when(0, 1), 1, 1);
            GlowDebts old = Due.bank("o0109");
            s.asked("when(0, 13), as in NIGHT 4 alone", old, old.when(0, 13), 4, 13);
            GlowDebts far = Due.bank("d0193");
            s.asked("when(0, 2)", far, far.when(0, 2), 17, 2);
        });
        s.test(24, "nothing else done", () -> {
            GlowDebts x = Due.bank("d0105 d0105");
            x.answer(1);
            s.asked("when(0, 10), the other one not lit", x, x.when(0, 10), 5, 10);
            s.is("the NIGHT", x.count(1), 0);
            s.is("DEEDS", x.count(2), 1);
        });
        s.test(24, "(beyond NIGHT 40, too);", () -> {
            GlowDebts x = Sentences.nights(Due.bank("f0109"), 40);
            s.asked("when(0, 1) in NIGHT 40", x, x.when(0, 1), 1, 1);
            s.asked("when(0, 0) in NIGHT 40", x, x.when(0, 0), 0, 0);
        });
        s.test(24, "how bright then by asked().", () -> {
            GlowDebts x = Due.bank("d0105 d1205 f2309");
            s.asked("when(0, 12), and more", x, x.when(0, 12), 1, 13);
        });
        s.test(24, "NONE: not by then.", () -> {
            GlowDebts x = Due.bank("d0105");
            s.refused("when(0, 21)", x, () -> x.when(0, 21), Sentences.NONE, 0);
            s.refused("when(9, 3)", x, () -> x.when(9, 3), Sentences.NONE, 0);
            s.asked("when(9, 2)", x, x.when(9, 2), 15, 2);
            GlowDebts old = Sentences.nights(Due.bank("o0109"), 5);
            s.refused("when(0, 11), as it was ahead", old, () -> old.when(0, 11), Sentences.NONE, 0);
            GlowDebts none = new GlowDebts();
            s.refused("when(0, 1) without LIGHTS", none, () -> none.when(0, 1), Sentences.NONE, 0);
            s.asked("when(0, 0) without LIGHTS", none, none.when(0, 0), 0, 0);
        });
        s.test(24, "BAD.", () -> {
            s.bounds("when(., 0)", TWO, (x, place) -> x.when(place, 0), 0, 9);
            s.bounds("when(0, .)", TWO, (x, v) -> x.when(0, v), 0, 200);
        });
    }

    private void stow() {
        s.test(25, "The PLACE to which to carry a LIGHT so that it is least bright in all PLACES from one on up to another one",
                () -> {
            GlowDebts x = TWO.get();
            s.asked("stow(0, 0, 4)", x, x.stow(0, 0, 4), 7, 1 + 3 + 5);
            s.asked("stow(1, 0, 0)", x, x.stow(1, 0, 0), 4, 2);
            s.asked("stow(1, 5, 9)", x, x.stow(1, 5, 9), 0, 0);
            GlowDebts last = Due.bank("l0109");
            s.asked("stow(0, 0, 4), the last PLACE", last, last.stow(0, 0, 4), 9, 0);
            s.is("DEEDS", x.count(2), 0);
        });
        s.test(25, "(both, from 0 .. 9, to as much or more) together", () -> {
            GlowDebts x = Due.bank("l0101");
            s.asked("stow(0, 0, 0)", x, x.stow(0, 0, 0), 1, 0);
            s.asked("stow(0, 9, 9)", x, x.stow(0, 9, 9), 0, 0);
            s.asked("stow(0, 0, 8)", x, x.stow(0, 0, 8), 9, 0);
            s.asked("stow(0, 0, 9)", x, x.stow(0, 0, 9), 0, 1);
            s.asked("stow(0, 1, 9)", x, x.stow(0, 1, 9), 0, 0);
            s.bad("stow(0, 1, 0)", x, () -> x.stow(0, 1, 0));
            s.bad("stow(0, 9, 8)", x, () -> x.stow(0, 9, 8));
        });
        s.test(25, "(its own counts;", () -> {
            GlowDebts x = Due.bank("l0105 l0109");
            s.asked("stow(0, 0, 9), how bright with it", x, x.stow(0, 0, 9), 0, 9 + 25);
            GlowDebts there = Due.bank("l0195");
            s.asked("stow(0, 0, 6), where it is", there, there.stow(0, 0, 6), 9, 0);
        });
        s.test(25, "of like ones the first);", () -> {
            GlowDebts x = Due.bank("l0190");
            s.asked("stow(0, 0, 9) of 0", x, x.stow(0, 0, 9), 0, 0);
            GlowDebts y = Due.bank("l0142");
            s.asked("stow(0, 0, 0)", y, y.stow(0, 0, 0), 1, 0);
            s.asked("stow(0, 5, 6)", y, y.stow(0, 5, 6), 0, 0);
            y.answer(0);
            s.asked("stow(0, 0, 9), not lit", y, y.stow(0, 0, 9), 0, 0);
        });
        s.test(25, "how bright by asked().", () -> {
            GlowDebts x = TWO.get();
            s.asked("stow(0, 5, 5)", x, x.stow(0, 5, 5), 0, 7);
            s.asked("stow(1, 2, 2)", x, x.stow(1, 2, 2), 6, 6);
        });
        s.test(25, "BAD.", () -> {
            s.bounds("stow(., 0, 0)", TWO, (x, k) -> x.stow(k, 0, 0), 0, 1);
            s.bounds("stow(0, ., 9)", TWO, (x, from) -> x.stow(0, from, 9), 0, 9);
            s.bounds("stow(0, 0, .)", TWO, (x, to) -> x.stow(0, 0, to), 0, 9);
            s.badFor("stow(0, 0, 9) without LIGHTS", GlowDebts::new, (x, k) -> x.stow(k, 0, 9), 0);
        });
    }

    private void dark() {
        s.test(26, "The first of n (1 .. 10) PLACES one beside another in which it is least bright together (the first such);",
                () -> {
            GlowDebts x = TWO.get();
            s.asked("dark(1), the last PLACE", x, x.dark(1), 9, 0);
            s.asked("dark(2)", x, x.dark(2), 8, 1);
            s.asked("dark(9)", x, x.dark(9), 1, 41);
            s.asked("dark(10), all", x, x.dark(10), 0, 43);
            GlowDebts like = Due.bank("l0145");
            s.asked("dark(1), like ones on both sides", like, like.dark(1), 0, 0);
            s.asked("dark(2), like ones on both sides", like, like.dark(2), 0, 0);
            s.asked("dark(3), on one side alone", like, like.dark(3), 7, 0);
            GlowDebts all = answered();
            s.asked("dark(5), all answered", all, all.dark(5), 0, 0);
            GlowDebts between = Due.bank("l0107 l0197");
            s.asked("dark(1), between", between, between.dark(1), 4, 0);
            s.asked("dark(2), between", between, between.dark(2), 4, 0);
        });
        s.test(26, "how bright by asked().", () -> {
            GlowDebts x = Due.bank("l0109 l0199");
            s.asked("dark(1)", x, x.dark(1), 4, 1);
            s.asked("dark(4)", x, x.dark(4), 3, 8);
        });
        s.test(26, "BAD;", () -> {
            s.bounds("dark(.)", TWO, (x, n) -> x.dark(n), 1, 10);
            s.badFor("dark(.) without LIGHTS", GlowDebts::new, (x, n) -> x.dark(n), 0, 11);
        });
        s.test(26, "STATE: no LIGHTS.", () -> {
            GlowDebts x = new GlowDebts();
            s.refused("dark(1)", x, () -> x.dark(1), Sentences.STATE, 0);
            s.refused("dark(10)", x, () -> x.dark(10), Sentences.STATE, 0);
        });
    }

    private void road() {
        s.test(27, "A way by PLACES 0 to 9, one behind the other, each along the bank, or on the top road, from which it is half "
                + "as bright (cut);", () -> {
            GlowDebts x = TWO.get();
            s.asked("road()", x, x.road(), 1 + 2 + 3 + 3 + 3 + 3 + 2 + 1, 1023);
            GlowDebts one = Due.bank("l0101");
            s.asked("road(), half of 1 cut", one, one.road(), 0, 1023);
            GlowDebts last = Due.bank("l0191");
            s.asked("road(), in the last PLACE alone", last, last.road(), 0, 1023);
        });
        s.test(27, "to change from bank to road, back, costs 3;", () -> {
            // if it cost nothing, PLACES 4 to 9, where it is dark, would be by the bank
            GlowDebts x = Due.bank("l0108");
            s.asked("road()", x, x.road(), 4 + 3 + 2 + 1, 1023);
            GlowDebts both = Due.bank("l0103 l0193");
            s.asked("road(), bright at both ends", both, both.road(), 2, 1023);
        });
        s.test(27, "it may begin, end on either one:", () -> {
            GlowDebts x = Due.bank("l0109 l0199");
            s.asked("road(), on the road from end to end", x, x.road(), 2 * (4 + 3 + 2 + 1), 1023);
            GlowDebts all = answered();
            s.asked("road(), on the bank from end to end", all, all.road(), 0, 0);
        });
        s.test(27, "how bright it is together at least, what changes cost, too;", () -> {
            GlowDebts x = Due.bank("l0144 l0144");
            s.asked("road()", x, x.road(), 2 + 4 + 2, 1023);
        });
        s.test(27, "the way as bits (a PLACE on the road is 1; of like ones the least number) by asked().", () -> {
            GlowDebts x = Due.bank("l0149");
            x.road();
            s.is("asked() behind road()", x.asked(), 1023);
            x.answer(0);
            s.asked("road(), all ways alike", x, x.road(), 0, 0);
            GlowDebts nought = Due.bank("l0140 d0140");
            s.asked("road(), lit, but of 0", nought, nought.road(), 0, 0);
            nought.night();
            s.asked("road(), in the next NIGHT", nought, nought.road(), 0, 1023);
        });
        s.test(27, "STATE: no LIGHTS.", () -> {
            GlowDebts x = new GlowDebts();
            s.refused("road()", x, x::road, Sentences.STATE, 0);
        });
    }
}
