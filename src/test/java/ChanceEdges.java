import java.util.function.Supplier;

/** Promises 38 to 41, sentence by sentence. */
final class ChanceEdges {
    private static final int MOST_SEED = 2147483646;
    private static final Supplier<GlowDebts> TWO = () -> Due.bank("l0105 l1003");
    private final Sentences s;

    ChanceEdges(Sentences s) {
        this.s = s;
    }

    void all() {
        duel();
        odds();
        mid();
        lots();
        lotsOfEachSort();
        lotsRefused();
    }

    private void duel(GlowDebts x, int place, int... bright) {
        for (int n = 0; n < bright.length; n++) {
            s.is("duel(" + place + ", " + n + "), lit " + x.count(3), x.duel(place, n), bright[n]);
        }
    }

    private void duel() {
        s.test(38, "By n (0 .. 4) turns in all", () -> {
            duel(TWO.get(), 0, 8, 3, 8, 3, 8);
            GlowDebts x = Due.bank("l0101 l0102 l0104 l0108");
            x.answer(0);
            x.answer(2);
            // LIGHTS of 2, 8 are lit: 8 is answered, lit again, answered; to light 4 in between is less
            duel(x, 0, 10, 2, 10, 2, 10);
            x.answer(3);
            duel(x, 0, 2, 0, 8, 0, 8);
        });
        s.test(38, "one answers a LIGHT that is lit, or none,", () -> {
            GlowDebts x = TWO.get();
            x.answer(0);
            x.answer(1);
            duel(x, 0, 0, 0, 5, 0, 5);
            x.relight(1);
            duel(x, 0, 3, 0, 5, 0, 5);
        });
        s.test(38, "then another one lights one that is not, or none:", () -> {
            GlowDebts x = Due.bank("l0105 l0190");
            x.answer(1);
            duel(x, 0, 5, 0, 5, 0, 5);
            GlowDebts forged = Due.bank("f0100");
            forged.answer(0);
            duel(forged, 0, 0, 0, 9, 0, 9);
        });
        s.test(38, "how bright it is at last in a PLACE,", () -> {
            duel(Due.bank("l0105 l0193"), 0, 5, 0, 5, 0, 5);
            duel(Due.bank("l0105 l0193"), 9, 3, 0, 3, 0, 3);
            duel(Due.bank("l0105 l0193"), 2, 1, 0, 1, 0, 1);
            duel(Due.bank("l0105 l0193"), 4, 0, 0, 0, 0, 0);
            GlowDebts x = Sentences.nights(Due.bank("d0105 d0190"), 20);
            duel(x, 0, 20 + 2, 2, 22, 2, 22);
            s.is("DEEDS", x.count(2), 20);
        });
        s.test(38, "the first wanting it dark, the second bright.", () -> {
            duel(Due.bank("l0105 l0105 l0107"), 0, 17, 10, 17, 10, 17);
            GlowDebts x = Due.bank("l0105 l0106 l0107");
            x.answer(2);
            // 6 is answered, 7 is lit, 7 is answered, one of 6, 7 is lit again
            duel(x, 0, 11, 5, 12, 5, 12);
        });
        s.test(38, "BAD;", () -> {
            s.bounds("duel(., 0)", TWO, (x, place) -> x.duel(place, 0), 0, 9);
            s.bounds("duel(0, .)", TWO, (x, n) -> x.duel(0, n), 0, 4);
            s.badFor("duel(0, .) without LIGHTS", GlowDebts::new, (x, n) -> x.duel(0, n), -1, 5);
        });
        s.test(38, "STATE: no LIGHTS.", () -> {
            GlowDebts x = new GlowDebts();
            s.refused("duel(0, 0)", x, () -> x.duel(0, 0), Sentences.STATE, 0);
            s.refused("duel(9, 4)", x, () -> x.duel(9, 4), Sentences.STATE, 0);
        });
    }

    private void odds(GlowDebts x, int v, int p, long upper, long lower) {
        s.chance("odds(0, " + v + ", " + p + ")", x, x.odds(0, v, p), upper, lower);
    }

    private void odds() {
        s.test(39, "Chances that it is as bright as v (0 .. 99), or less, in a PLACE,", () -> {
            GlowDebts x = TWO.get();
            odds(x, 0, 6, 1, 4);
            odds(x, 2, 6, 1, 4);
            odds(x, 3, 6, 1, 2);
            odds(x, 4, 6, 1, 2);
            odds(x, 5, 6, 3, 4);
            odds(x, 7, 6, 3, 4);
            odds(x, 8, 6, 1, 1);
            odds(x, 99, 6, 1, 1);
            s.chance("odds(9, 0, 6)", x, x.odds(9, 0, 6), 1, 1);
            GlowDebts most = Sentences.nights(Due.bank("d0109d0109d0109d0109d0109d0109d0109d0109"), 11);
            // of 8 LIGHTS of 20 each at least 4 have to be put out: 163 of 256
            odds(most, 99, 6, 163, 256);
        });
        s.test(39, "if each LIGHT that is lit is put out by p (0 .. 12) of 12,", () -> {
            GlowDebts x = TWO.get();
            odds(x, 7, 0, 0, 1);
            odds(x, 8, 0, 1, 1);
            odds(x, 0, 12, 1, 1);
            odds(x, 0, 1, 1, 144);
            odds(x, 0, 11, 121, 144);
            odds(x, 0, 5, 25, 144);
            x.answer(0);
            odds(x, 0, 5, 5, 12);
            odds(x, 0, 0, 0, 1);
            x.answer(1);
            odds(x, 0, 0, 1, 1);
            odds(x, 0, 5, 1, 1);
            GlowDebts forged = Due.bank("f0100 m0100");
            odds(forged, 9, 4, 5, 9);
        });
        s.test(39, "each by itself: 1.", () -> {
            GlowDebts x = Due.bank("l0105 l0105 l0105");
            odds(x, 0, 3, 1, 64);
            odds(x, 5, 3, 5, 32);
            odds(x, 10, 3, 37, 64);
            GlowDebts all = Due.bank("l0105l0105l0105l0105l0105l0105l0105l0105");
            odds(all, 0, 1, 1, 429981696);
            odds(all, 39, 11, 429981695, 429981696);
            odds(all, 0, 11, 214358881, 429981696);
        });
        s.test(39, "BAD;", () -> {
            s.bounds("odds(., 0, 0)", TWO, (x, place) -> x.odds(place, 0, 0), 0, 9);
            s.bounds("odds(0, ., 0)", TWO, (x, v) -> x.odds(0, v, 0), 0, 99);
            s.bounds("odds(0, 0, .)", TWO, (x, p) -> x.odds(0, 0, p), 0, 12);
            s.badFor("odds(0, 0, .) without LIGHTS", GlowDebts::new, (x, p) -> x.odds(0, 0, p), -1, 13);
        });
        s.test(39, "STATE: no LIGHTS.", () -> {
            GlowDebts x = new GlowDebts();
            s.refused("odds(0, 0, 0)", x, () -> x.odds(0, 0, 0), Sentences.STATE, 0);
            s.refused("odds(9, 99, 12)", x, () -> x.odds(9, 99, 12), Sentences.STATE, 0);
        });
    }

    private void mid(GlowDebts x, int place, int p, long upper, long lower) {
        s.chance("mid(" + place + ", " + p + ")", x, x.mid(place, p), upper, lower);
    }

    private void mid() {
        s.test(40, "The mean of how bright it is there so: 1.", () -> {
            GlowDebts x = TWO.get();
            mid(x, 0, 0, 8, 1);
            mid(x, 0, 12, 0, 1);
            mid(x, 0, 6, 4, 1);
            mid(x, 0, 5, 14, 3);
            mid(x, 0, 11, 2, 3);
            mid(x, 1, 11, 1, 3);
            mid(x, 9, 3, 0, 1);
            x.answer(0);
            mid(x, 0, 1, 11, 4);
            x.answer(1);
            mid(x, 0, 1, 0, 1);
            mid(Due.bank("f0104"), 0, 7, 25, 12);
        });
        s.test(40, "BAD;", () -> {
            s.bounds("mid(., 0)", TWO, (x, place) -> x.mid(place, 0), 0, 9);
            s.bounds("mid(0, .)", TWO, (x, p) -> x.mid(0, p), 0, 12);
            s.badFor("mid(0, .) without LIGHTS", GlowDebts::new, (x, p) -> x.mid(0, p), -1, 13);
        });
        s.test(40, "STATE: no LIGHTS.", () -> {
            GlowDebts x = new GlowDebts();
            s.refused("mid(0, 0)", x, () -> x.mid(0, 0), Sentences.STATE, 0);
            s.refused("mid(9, 12)", x, () -> x.mid(9, 12), Sentences.STATE, 0);
        });
    }

    /**
     * By seed 1 the numbers are 48271, 182605794, 1291394886, 1914720637, 2078669041, by the greatest seed 2147435376,
     * 1964877853, by seed 3 144813.
     */
    private void lots() {
        s.test(41, "n (1 .. 20) DEEDS truly by LOTS of a seed:", () -> {
            GlowDebts x = TWO.get();
            x.lots(1, 1);
            s.is("DEEDS", x.count(2), 1);
            x.lots(20, 1);
            s.is("DEEDS", x.count(2), 21);
            GlowDebts y = TWO.get();
            y.lots(20, 77);
            y.undo(5);
            GlowDebts z = TWO.get();
            z.lots(5, 77);
            s.is("20 lots, undone to 5, and 5 lots", y.digest(), z.digest());
        });
        s.test(41, "a number comes from the one ahead by 48271 times it modulo 2147483647,", () -> {
            GlowDebts x = TWO.get();
            s.is("lots(5, 1)", x.lots(5, 1), 5);
            s.asked("LIGHT 0, carried by the fifth", x, x.light(0, 3), 1, 3);
            s.asked("LIGHT 1, carried by the fourth", x, x.light(1, 3), 1, 9);
            x.undo(3);
            s.is("lit behind three", x.count(3), 1);
            x.undo(2);
            s.is("lit behind two", x.count(3), 0);
            x.undo(1);
            s.is("lit behind one", x.count(3), 1);
        });
        s.test(41, "the first from the seed (1 .. 2147483646):", () -> {
            GlowDebts x = TWO.get();
            x.lots(2, MOST_SEED);
            s.is("the NIGHT by the first", x.count(1), 1);
            s.asked("LIGHT 1, carried by the second", x, x.light(1, 3), 1, 6);
            GlowDebts y = TWO.get();
            y.lots(1, 1);
            s.is("the NIGHT by seed 1", y.count(1), 0);
            s.is("lit by seed 1", y.count(3), 1);
        });
    }

    private void lotsOfEachSort() {
        s.test(41, "if it modulo 4 is 0, and it is not NIGHT 40, a NIGHT passes;", () -> {
            GlowDebts x = TWO.get();
            s.is("lots(1, MOST)", x.lots(1, MOST_SEED), 8);
            s.is("the NIGHT", x.count(1), 1);
            GlowDebts y = Sentences.nights(TWO.get(), 39);
            s.is("lots(1, MOST) in NIGHT 39", y.lots(1, MOST_SEED), 8);
            s.is("the NIGHT", y.count(1), 40);
            s.refused("lots(1, MOST) in NIGHT 40", y, () -> y.lots(1, MOST_SEED), Sentences.FULL, 0);
        });
        s.test(41, "if it is 1, the LIGHT that it by 8, cut, modulo how many there are is carried to the PLACE that it by 64, cut, "
                + "modulo 10 is", () -> {
            // 144813: LIGHT 18101 modulo how many, PLACE 2262 modulo 10
            int[] which = {0, 0, 1, 2, 1, 1, 5, 6, 5};
            for (int lights = 1; lights <= 8; lights++) {
                GlowDebts x = Due.bank("l0105l0105l0105l0105l0105l0105l0105l0105".substring(0, 5 * lights));
                x.lots(1, 3);
                for (int k = 0; k < lights; k++) {
                    s.asked("LIGHT " + k + " of " + lights, x, x.light(k, 3), 1, k == which[lights] ? 2 : 0);
                }
            }
        });
        s.test(41, "(perhaps its own);", () -> {
            GlowDebts x = Due.bank("l0125");
            s.is("lots(1, 3)", x.lots(1, 3), 5);
            s.asked("the PLACE", x, x.light(0, 3), 1, 2);
            s.is("DEEDS", x.count(2), 1);
            s.is("undo(0)", x.undo(0), 1);
            s.asked("the PLACE behind undo(0)", x, x.light(0, 3), 1, 2);
        });
        s.test(41, "else that one is answered, if lit, and lit again, if not:", () -> {
            // 48271, 182605794, 1291394886: LIGHTS 6033, 22825724, 161424360 modulo 2
            GlowDebts x = TWO.get();
            s.is("lots(1, 1)", x.lots(1, 1), 5);
            s.is("lit", x.count(3), 1);
            x.undo(0);
            s.is("lots(2, 1)", x.lots(2, 1), 0);
            x.undo(0);
            s.is("lots(3, 1)", x.lots(3, 1), 5);
            s.is("lit", x.count(3), 1);
        });
        s.test(41, "how all that are lit GLOW together then.", () -> {
            GlowDebts x = Due.bank("d0105 d0193");
            s.is("lots(1, MOST), a NIGHT", x.lots(1, MOST_SEED), 6 + 4);
            s.is("lots(1, 1), LIGHT 1 answered", x.lots(1, 1), 6);
            s.is("lots(1, 1), LIGHT 1 lit again", x.lots(1, 1), 10);
            s.is("lots(1, 3), one carried", x.lots(1, 3), 10);
        });
    }

    private void lotsRefused() {
        s.test(41, "BAD;", () -> {
            s.bounds("lots(., 1)", TWO, (x, n) -> x.lots(n, 1), 1, 20);
            s.bounds("lots(1, .)", TWO, (x, seed) -> x.lots(1, seed), 1, MOST_SEED);
            s.badFor("lots(., 1) without LIGHTS", GlowDebts::new, (x, n) -> x.lots(n, 1), 0, 21);
            s.badFor("lots(1, .) without LIGHTS", GlowDebts::new, (x, seed) -> x.lots(1, seed), 0, -1);
        });
        s.test(41, "STATE: no LIGHTS;", () -> {
            GlowDebts x = new GlowDebts();
            s.refused("lots(1, 1)", x, () -> x.lots(1, 1), Sentences.STATE, 0);
            s.refused("lots(20, MOST)", x, () -> x.lots(20, MOST_SEED), Sentences.STATE, 0);
        });
        s.test(41, "FULL: with n more there would be more than 40 DEEDS.", () -> {
            GlowDebts x = Sentences.nights(TWO.get(), 21);
            s.refused("lots(20, 1) with 21", x, () -> x.lots(20, 1), Sentences.FULL, 0);
            s.is("lots(19, 1) with 21 is well", x.lots(19, 1) >= 0 ? 1 : 0, 1);
            s.is("DEEDS", x.count(2), 40);
            s.refused("lots(1, 1) with 40", x, () -> x.lots(1, 1), Sentences.FULL, 0);
            x.undo(39);
            s.refused("lots(2, 1) with 39", x, () -> x.lots(2, 1), Sentences.FULL, 0);
            s.is("lots(1, 1) with 39 is well", x.lots(1, 1) >= 0 ? 1 : 0, 1);
            GlowDebts y = Sentences.nights(TWO.get(), 20);
            s.is("lots(20, 1) with 20 is well", y.lots(20, 1) >= 0 ? 1 : 0, 1);
        });
        s.test(41, "(FULL last.)", () -> {
            GlowDebts x = Sentences.nights(TWO.get(), 40);
            s.bad("lots(21, 1) with 40", x, () -> x.lots(21, 1));
            s.bad("lots(1, 0) with 40", x, () -> x.lots(1, 0));
        });
    }
}
