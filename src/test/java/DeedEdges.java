import java.util.function.Supplier;

/** Promises 15 to 21, sentence by sentence. */
final class DeedEdges {
    private static final Supplier<GlowDebts> TWO = () -> Due.bank("l0125 d1036");
    private final Sentences s;

    DeedEdges(Sentences s) {
        this.s = s;
    }

    void all() {
        night();
        answer();
        relight();
        carry();
        undo();
        keep();
        on();
    }

    /** Two LIGHTS and 40 DEEDS, in NIGHT 38; LIGHT 1 is not lit, LIGHT 0 is in PLACE 4. */
    private static GlowDebts full() {
        GlowDebts x = Sentences.nights(TWO.get(), 38);
        x.answer(1);
        x.carry(0, 4);
        return x;
    }

    private void night() {
        s.test(15, "A NIGHT passes: how all that are lit GLOW together then.", () -> {
            GlowDebts x = Due.bank("l0195 d1006 f2043 o3434 j4527 m5013");
            s.is("night()", x.night(), 5 + 7 + 7 + 5 + 4 + 7);
            s.is("the NIGHT", x.count(1), 1);
            s.is("DEEDS", x.count(2), 1);
            x.answer(2);
            s.is("night(), one answered", x.night(), 5 + 8 + 6 + 4 + 6);
            GlowDebts dark = TWO.get();
            dark.answer(0);
            dark.answer(1);
            s.is("night(), all answered", dark.night(), 0);
            s.is("the NIGHT, all answered", dark.count(1), 1);
        });
        s.test(15, "STATE: no LIGHTS,", () -> {
            GlowDebts x = new GlowDebts();
            s.refused("night()", x, x::night, Sentences.STATE, 0);
            x.text(0, 3);
            x.bank(0);
            s.refused("night(), a TEXT of blanks", x, x::night, Sentences.STATE, 0);
        });
        s.test(15, "or it is NIGHT 40;", () -> {
            GlowDebts x = Sentences.nights(TWO.get(), 39);
            s.is("night() in NIGHT 39", x.night(), 25);
            s.refused("night() in NIGHT 40", x, x::night, Sentences.STATE, 0);
            x.undo(39);
            s.is("night() in NIGHT 39 again", x.night(), 25);
        });
        s.test(15, "FULL: 40 DEEDS.", () -> {
            GlowDebts x = full();
            s.refused("night()", x, x::night, Sentences.FULL, 0);
            x.undo(39);
            s.is("night() with 39", x.night(), 5);
        });
        s.test(15, "(FULL last.)", () -> {
            GlowDebts x = Sentences.nights(TWO.get(), 40);
            s.is("DEEDS", x.count(2), 40);
            s.refused("night() in NIGHT 40, with 40 DEEDS", x, x::night, Sentences.STATE, 0);
        });
    }

    private void answer() {
        s.test(16, "A LIGHT is answered: how it GLOWED.", () -> {
            GlowDebts x = Sentences.nights(Due.bank("l0190 d1036 o2309"), 5);
            s.is("answer(1)", x.answer(1), 11);
            s.is("answer(2)", x.answer(2), 7);
            s.is("answer(0), bright 0", x.answer(0), 0);
            s.is("lit", x.count(3), 0);
            s.is("DEEDS", x.count(2), 8);
        });
        s.test(16, "BAD;", () -> s.bounds("answer(.)", TWO, (x, k) -> x.answer(k), 0, 1));
        s.test(16, "STATE: it is not lit;", () -> {
            GlowDebts x = TWO.get();
            x.answer(0);
            s.refused("answer(0)", x, () -> x.answer(0), Sentences.STATE, 0);
            x.relight(0);
            s.is("answer(0), lit again", x.answer(0), 5);
        });
        s.test(16, "FULL.", () -> {
            GlowDebts x = full();
            s.refused("answer(0)", x, () -> x.answer(0), Sentences.FULL, 0);
            x.undo(39);
            s.is("answer(0) with 39", x.answer(0), 5);
        });
        s.test(16, "(FULL last.)", () -> {
            GlowDebts x = full();
            s.refused("answer(1), not lit", x, () -> x.answer(1), Sentences.STATE, 0);
            s.bad("answer(2)", x, () -> x.answer(2));
        });
    }

    private void relight() {
        s.test(17, "A LIGHT is lit again: how it GLOWS.", () -> {
            GlowDebts x = TWO.get();
            x.answer(1);
            x.answer(0);
            Sentences.nights(x, 3);
            s.is("relight(1)", x.relight(1), 9);
            s.is("lit", x.count(3), 2);
            s.is("relight(0)", x.relight(0), 5);
            s.is("lit, both", x.count(3), 3);
            s.is("DEEDS", x.count(2), 7);
        });
        s.test(17, "BAD;", () -> {
            s.bounds("relight(.), none lit", () -> {
                GlowDebts x = TWO.get();
                x.answer(0);
                x.answer(1);
                return x;
            }, (x, k) -> x.relight(k), 0, 1);
        });
        s.test(17, "STATE: it is lit;", () -> {
            GlowDebts x = TWO.get();
            s.refused("relight(0)", x, () -> x.relight(0), Sentences.STATE, 0);
            s.refused("relight(1)", x, () -> x.relight(1), Sentences.STATE, 0);
        });
        s.test(17, "FULL.", () -> {
            GlowDebts x = full();
            s.refused("relight(1)", x, () -> x.relight(1), Sentences.FULL, 0);
            x.undo(39);
            s.is("relight(1) with 39", x.relight(1), 20);
        });
        s.test(17, "(FULL last.)", () -> {
            GlowDebts x = full();
            s.refused("relight(0), lit", x, () -> x.relight(0), Sentences.STATE, 0);
            s.bad("relight(2)", x, () -> x.relight(2));
        });
    }

    private void carry() {
        s.test(18, "A LIGHT is carried: the PLACE ahead.", () -> {
            GlowDebts x = TWO.get();
            s.is("carry(0, 9)", x.carry(0, 9), 2);
            s.is("carry(0, 0)", x.carry(0, 0), 9);
            s.is("carry(0, 2)", x.carry(0, 2), 0);
            x.answer(1);
            s.is("carry(1, 4), not lit", x.carry(1, 4), 3);
            s.asked("light(1, 3)", x, x.light(1, 3), 1, 4);
            s.is("DEEDS", x.count(2), 5);
        });
        s.test(18, "BAD;", () -> {
            s.bounds("carry(., 5)", TWO, (x, k) -> x.carry(k, 5), 0, 1);
            s.bounds("carry(0, .)", TWO, (x, place) -> x.carry(0, place), 0, 9);
        });
        s.test(18, "STATE: it is there;", () -> {
            GlowDebts x = TWO.get();
            s.refused("carry(0, 2)", x, () -> x.carry(0, 2), Sentences.STATE, 0);
            s.is("carry(0, 3), where another one is", x.carry(0, 3), 2);
            s.refused("carry(0, 3)", x, () -> x.carry(0, 3), Sentences.STATE, 0);
        });
        s.test(18, "FULL.", () -> {
            GlowDebts x = full();
            s.refused("carry(0, 5)", x, () -> x.carry(0, 5), Sentences.FULL, 0);
            x.undo(39);
            s.is("carry(0, 5) with 39", x.carry(0, 5), 2);
        });
        s.test(18, "(FULL last.)", () -> {
            GlowDebts x = full();
            s.refused("carry(0, 4), it is there", x, () -> x.carry(0, 4), Sentences.STATE, 0);
            s.bad("carry(0, 10)", x, () -> x.carry(0, 10));
            s.bad("carry(2, 0)", x, () -> x.carry(2, 0));
        });
    }

    private void undo() {
        s.test(19, "DEEDS from number n on", () -> {
            GlowDebts x = TWO.get();
            long[] digests = new long[6];
            for (int deed = 0; deed < 6; deed++) {
                digests[deed] = x.digest();
                oneOfSix(x, deed);
            }
            for (int deed = 5; deed >= 1; deed -= 2) {
                s.is("undo(" + deed + ")", x.undo(deed), deed == 5 ? 1 : 2);
                s.is("digest() behind undo(" + deed + ")", x.digest(), digests[deed]);
            }
            s.is("undo(0)", x.undo(0), 1);
            s.is("digest() behind undo(0)", x.digest(), digests[0]);
            s.is("a DEED behind it", x.night(), 5 + 7);
        });
        s.test(19, "(n 0 to how many there are: then 0)", () -> {
            s.is("undo(0) without LIGHTS", new GlowDebts().undo(0), 0);
            GlowDebts x = TWO.get();
            s.is("undo(0) at first", x.undo(0), 0);
            Sentences.nights(x, 3);
            long digest = x.digest();
            s.is("undo(3)", x.undo(3), 0);
            s.is("digest() behind undo(3)", x.digest(), digest);
            s.bad("undo(4)", x, () -> x.undo(4));
            s.is("undo(0)", x.undo(0), 3);
        });
        s.test(19, "are undone: how many.", () -> {
            GlowDebts x = full();
            s.is("undo(0) of 40", x.undo(0), 40);
            s.is("the NIGHT", x.count(1), 0);
            s.is("DEEDS", x.count(2), 0);
            s.is("lit", x.count(3), 3);
            s.asked("light(0, 3)", x, x.light(0, 3), 1, 2);
        });
        s.test(19, "BAD.", () -> {
            s.bounds("undo(.) of 40", DeedEdges::full, (x, n) -> x.undo(n), 0, 40);
            s.badFor("undo(.) of none", GlowDebts::new, (x, n) -> x.undo(n), -1, 1, 40);
        });
    }

    /** Six DEEDS of each sort. */
    private static void oneOfSix(GlowDebts x, int deed) {
        switch (deed) {
            case 0: x.night(); break;
            case 1: x.answer(1); break;
            case 2: x.carry(1, 0); break;
            case 3: x.carry(1, 9); break;
            case 4: x.relight(1); break;
            default: x.carry(0, 0);
        }
    }

    private void keep() {
        s.test(20, "The BANK (as it is, DEEDS) is kept in a place (0 .. 2): how many DEEDS.", () -> {
            GlowDebts x = TWO.get();
            s.is("keep(0)", x.keep(0), 0);
            Sentences.nights(x, 2);
            s.is("keep(1)", x.keep(1), 2);
            x.answer(0);
            s.is("keep(2)", x.keep(2), 3);
            s.is("kept BANKS", x.count(9), 3);
            s.is("on(0)", x.on(0), 0);
            s.is("on(1)", x.on(1), 2);
            s.is("on(2)", x.on(2), 3);
            s.is("keep(0), where another one was", x.keep(0), 3);
            s.is("on(0)", x.on(0), 3);
            s.is("keep(0) of 40", full().keep(0), 40);
        });
        s.test(20, "BAD;", () -> {
            s.bounds("keep(.)", TWO, (x, k) -> x.keep(k), 0, 2);
            s.badFor("keep(.), no LIGHTS", GlowDebts::new, (x, k) -> x.keep(k), -1, 3);
        });
        s.test(20, "STATE: no LIGHTS.", () -> {
            GlowDebts x = new GlowDebts();
            for (int k = 0; k <= 2; k++) {
                int place = k;
                s.refused("keep(" + k + ")", x, () -> x.keep(place), Sentences.STATE, 0);
            }
        });
    }

    private void on() {
        s.test(21, "The BANK is as it was kept: how many DEEDS.", () -> {
            GlowDebts x = TWO.get();
            x.night();
            x.carry(1, 8);
            x.answer(0);
            x.keep(1);
            long kept = x.digest();
            x.undo(0);
            Sentences.nights(x, 30);
            x.answer(1);
            x.carry(0, 1);
            s.is("on(1)", x.on(1), 3);
            s.is("digest()", x.digest(), kept);
            s.is("undo(1), its own DEEDS", x.undo(1), 2);
            s.is("the NIGHT", x.count(1), 1);
            s.is("lit", x.count(3), 3);
            s.asked("light(1, 3)", x, x.light(1, 3), 1, 3);
            s.is("on(1), kept still", x.on(1), 3);
            s.is("digest() once more", x.digest(), kept);
            s.is("night(), from there", x.night(), 8);
        });
        s.test(21, "BAD;", () -> {
            s.bounds("on(.)", () -> {
                GlowDebts x = TWO.get();
                x.keep(0);
                x.keep(2);
                return x;
            }, (x, k) -> x.on(k), 0, 2);
        });
        s.test(21, "NOTHING.", () -> {
            GlowDebts x = TWO.get();
            x.keep(1);
            s.found("on(0)", x, () -> x.on(0), Sentences.NOTHING);
            s.found("on(2)", x, () -> x.on(2), Sentences.NOTHING);
            GlowDebts none = new GlowDebts();
            s.found("on(0), no LIGHTS", none, () -> none.on(0), Sentences.NOTHING);
        });
    }
}
