/** Promises 15 to 21: deeds. */
final class DeedsTest {
    private static final int NOTHING = 1;
    private static final int STATE = GlowDebts.STATE, FULL = GlowDebts.FULL;
    private static final Due due = new Due();

    public static void main(String[] args) {
        night();
        answer();
        relight();
        carry();
        undo();
        keep();
        on();
        full();
        due.end("DeedsTest");
    }

    private static void nights(GlowDebts x, int n) {
        for (int i = 0; i < n; i++) {
            x.night();
        }
    }

    private static void night() {
        GlowDebts empty = new GlowDebts();
        due.refused("night() without LIGHTS", empty, empty::night, STATE, 0);
        GlowDebts x = Due.bank("d0105 l1093 f0123");
        due.is("night() to NIGHT 1", x.night(), 6 + 3 + 7);
        x.answer(1);
        due.is("night() to NIGHT 2", x.night(), 7 + 6);
        due.is("the NIGHT", x.count(1), 2);
        due.is("DEEDS", x.count(2), 3);
        GlowDebts y = Due.bank("d0105");
        nights(y, 39);
        due.is("night() to NIGHT 40", y.night(), 20);
        due.refused("night() in NIGHT 40", y, y::night, STATE, 0);
    }

    private static void answer() {
        GlowDebts x = Due.bank("l0125 d1036");
        x.night();
        due.is("answer(1)", x.answer(1), 7);
        due.is("lit behind answer", x.count(3), 1);
        due.is("DEEDS behind answer", x.count(2), 2);
        due.refused("answer(1) again", x, () -> x.answer(1), STATE, 0);
        due.bad("answer(2)", x, () -> x.answer(2));
        due.bad("answer(-1)", x, () -> x.answer(-1));
    }

    private static void relight() {
        GlowDebts x = Due.bank("l0125 d1036");
        x.answer(1);
        x.answer(0);
        x.night();
        x.night();
        due.is("relight(1)", x.relight(1), 8);
        due.is("lit behind relight", x.count(3), 2);
        due.is("DEEDS behind relight", x.count(2), 5);
        due.refused("relight(1) again", x, () -> x.relight(1), STATE, 0);
        due.bad("relight(2)", x, () -> x.relight(2));
        due.bad("relight(-1)", x, () -> x.relight(-1));
    }

    private static void carry() {
        GlowDebts x = Due.bank("l0125 d1036");
        due.is("carry(0, 9)", x.carry(0, 9), 2);
        due.asked("the PLACE behind carry", x, x.light(0, 3), 1, 9);
        x.answer(0);
        due.is("carry(0, 0), answered", x.carry(0, 0), 9);
        due.is("DEEDS behind carry", x.count(2), 3);
        due.refused("carry(0, 0) again", x, () -> x.carry(0, 0), STATE, 0);
        due.bad("carry(0, 10)", x, () -> x.carry(0, 10));
        due.bad("carry(0, -1)", x, () -> x.carry(0, -1));
        due.bad("carry(2, 0)", x, () -> x.carry(2, 0));
        due.bad("carry(-1, 0)", x, () -> x.carry(-1, 0));
    }

    private static void undo() {
        GlowDebts empty = new GlowDebts();
        due.is("undo(0) without LIGHTS", empty.undo(0), 0);
        due.bad("undo(1) without LIGHTS", empty, () -> empty.undo(1));
        GlowDebts x = Due.bank("l0125 d1036 l2347");
        long[] digests = new long[6];
        digests[0] = x.digest();
        x.night();
        digests[1] = x.digest();
        x.answer(2);
        digests[2] = x.digest();
        x.carry(2, 8);
        digests[3] = x.digest();
        x.carry(2, 1);
        digests[4] = x.digest();
        x.relight(2);
        digests[5] = x.digest();
        due.is("undo(5)", x.undo(5), 0);
        due.is("behind undo(5)", x.digest(), digests[5]);
        due.bad("undo(6)", x, () -> x.undo(6));
        due.bad("undo(-1)", x, () -> x.undo(-1));
        due.is("undo(4)", x.undo(4), 1);
        due.is("behind undo(4)", x.digest(), digests[4]);
        due.is("undo(2)", x.undo(2), 2);
        due.is("behind undo(2)", x.digest(), digests[2]);
        due.is("undo(1)", x.undo(1), 1);
        due.is("behind undo(1)", x.digest(), digests[1]);
        due.is("undo(0)", x.undo(0), 1);
        due.is("behind undo(0)", x.digest(), digests[0]);
    }

    private static void keep() {
        GlowDebts x = new GlowDebts();
        due.refused("keep(0) without LIGHTS", x, () -> x.keep(0), STATE, 0);
        due.bad("keep(3) without LIGHTS", x, () -> x.keep(3));
        due.bad("keep(-1)", x, () -> x.keep(-1));
        Due.write(x, 0, "l0125");
        x.bank(0);
        due.is("keep(2) at first", x.keep(2), 0);
        x.night();
        x.answer(0);
        due.is("keep(0)", x.keep(0), 2);
        due.is("kept BANKS", x.count(9), 2);
        due.is("keep(2) anew", x.keep(2), 2);
        due.is("kept BANKS still", x.count(9), 2);
    }

    private static void on() {
        GlowDebts x = Due.bank("l0125 d1036");
        due.found("on(0)", x, () -> x.on(0), NOTHING);
        due.bad("on(3)", x, () -> x.on(3));
        due.bad("on(-1)", x, () -> x.on(-1));
        x.night();
        x.answer(0);
        x.carry(1, 7);
        x.keep(1);
        long kept = x.digest();
        x.undo(0);
        x.night();
        x.night();
        x.carry(0, 4);
        x.answer(1);
        due.is("on(1)", x.on(1), 3);
        due.is("behind on(1)", x.digest(), kept);
        due.is("undo behind on", x.undo(0), 3);
        due.is("lit behind undo behind on", x.count(3), 3);
        due.asked("carried back", x, x.light(1, 3), 1, 3);
        due.is("on(1) once more", x.on(1), 3);
        due.is("behind on(1) once more", x.digest(), kept);
    }

    private static void full() {
        GlowDebts x = Due.bank("l0125 d1036");
        x.answer(1);
        nights(x, 39);
        due.is("DEEDS when full", x.count(2), 40);
        due.refused("night() when full", x, x::night, FULL, 0);
        due.refused("answer(0) when full", x, () -> x.answer(0), FULL, 0);
        due.refused("relight(1) when full", x, () -> x.relight(1), FULL, 0);
        due.refused("carry(0, 0) when full", x, () -> x.carry(0, 0), FULL, 0);
        due.refused("lots(1, 1) when full", x, () -> x.lots(1, 1), FULL, 0);
        due.refused("answer(1) when full", x, () -> x.answer(1), STATE, 0);
        due.refused("relight(0) when full", x, () -> x.relight(0), STATE, 0);
        due.refused("carry(0, 2) when full", x, () -> x.carry(0, 2), STATE, 0);
        due.bad("carry(0, 10) when full", x, () -> x.carry(0, 10));
        due.is("keep(0) when full", x.keep(0), 40);
        due.is("undo(39) when full", x.undo(39), 1);
        due.is("answer(0) as the last one", x.answer(0), 5);
        due.is("on(0) when full", x.on(0), 40);
        due.is("undo(0) when full", x.undo(0), 40);
        due.is("the NIGHT behind it", x.count(1), 0);
        due.is("lit behind it", x.count(3), 3);
    }
}
