/** Promises 38 to 41: by turns, chances, lots. */
final class ChancesTest {
    private static final int STATE = GlowDebts.STATE, FULL = GlowDebts.FULL;
    private static final Due due = new Due();

    public static void main(String[] args) {
        duel();
        odds();
        mid();
        lots();
        due.end("ChancesTest");
    }

    private static GlowDebts two() {
        return Due.bank("l0105 l0103");
    }

    private static void duel(GlowDebts x, String which, int... bright) {
        for (int n = 0; n < bright.length; n++) {
            due.is(which + ": duel(0, " + n + ")", x.duel(0, n), bright[n]);
        }
    }

    private static void duel() {
        GlowDebts x = two();
        duel(x, "both lit", 8, 3, 8, 3, 8);
        x.answer(1);
        duel(x, "one lit", 5, 0, 5, 0, 5);
        x.answer(0);
        duel(x, "none lit", 0, 0, 5, 0, 5);
        due.is("DEEDS behind duel", x.count(2), 2);
        GlowDebts three = Due.bank("l0104 f0104 l0122");
        three.answer(2);
        duel(three, "FORGED ones, too", 9, 4, 9, 4, 9);
        GlowDebts far = Due.bank("l0125 l0193");
        due.is("duel(2, 1)", far.duel(2, 1), 0);
        due.is("duel(1, 0)", far.duel(1, 0), 3);
        due.bad("duel(10, 0)", x, () -> x.duel(10, 0));
        due.bad("duel(-1, 0)", x, () -> x.duel(-1, 0));
        due.bad("duel(0, 5)", x, () -> x.duel(0, 5));
        due.bad("duel(0, -1)", x, () -> x.duel(0, -1));
        GlowDebts none = new GlowDebts();
        due.refused("duel(0, 0) without LIGHTS", none, () -> none.duel(0, 0), STATE, 0);
        due.bad("duel(0, 5) without LIGHTS", none, () -> none.duel(0, 5));
    }

    private static void odds() {
        GlowDebts x = two();
        due.chance("odds(0, 3, 6)", x, x.odds(0, 3, 6), 1, 2);
        due.chance("odds(0, 0, 6)", x, x.odds(0, 0, 6), 1, 4);
        due.chance("odds(0, 4, 4)", x, x.odds(0, 4, 4), 1, 3);
        due.chance("odds(0, 0, 5)", x, x.odds(0, 0, 5), 25, 144);
        due.chance("odds(0, 7, 5)", x, x.odds(0, 7, 5), 95, 144);
        due.chance("odds(0, 8, 0)", x, x.odds(0, 8, 0), 1, 1);
        due.chance("odds(0, 7, 0)", x, x.odds(0, 7, 0), 0, 1);
        due.chance("odds(0, 0, 12)", x, x.odds(0, 0, 12), 1, 1);
        due.chance("odds(0, 99, 1)", x, x.odds(0, 99, 1), 1, 1);
        due.chance("odds(1, 1, 3)", x, x.odds(1, 1, 3), 1, 4);
        due.refused("odds(0, 100, 0)", x, () -> x.odds(0, 100, 0), GlowDebts.BAD, 0);
        x.answer(0);
        due.chance("odds(0, 0, 5), one answered", x, x.odds(0, 0, 5), 5, 12);
        x.answer(1);
        due.chance("odds(0, 0, 5), all answered", x, x.odds(0, 0, 5), 1, 1);
        GlowDebts all = Due.bank("f0104 l0105 l0105 l0105 l0105 l0105 l0105 l0105");
        due.chance("odds(0, 0, 1)", all, all.odds(0, 0, 1), 1, 429981696);
        due.chance("odds(0, 39, 1)", all, all.odds(0, 39, 1), 429981696 - 214358881, 429981696);
        due.bad("odds(10, 0, 0)", x, () -> x.odds(10, 0, 0));
        due.bad("odds(-1, 0, 0)", x, () -> x.odds(-1, 0, 0));
        due.bad("odds(0, -1, 0)", x, () -> x.odds(0, -1, 0));
        due.bad("odds(0, 0, 13)", x, () -> x.odds(0, 0, 13));
        due.bad("odds(0, 0, -1)", x, () -> x.odds(0, 0, -1));
        GlowDebts none = new GlowDebts();
        due.refused("odds(0, 0, 0) without LIGHTS", none, () -> none.odds(0, 0, 0), STATE, 0);
        due.bad("odds(0, 0, 13) without LIGHTS", none, () -> none.odds(0, 0, 13));
    }

    private static void mid() {
        GlowDebts x = two();
        due.chance("mid(0, 5)", x, x.mid(0, 5), 14, 3);
        due.chance("mid(0, 0)", x, x.mid(0, 0), 8, 1);
        due.chance("mid(0, 12)", x, x.mid(0, 12), 0, 1);
        due.chance("mid(1, 11)", x, x.mid(1, 11), 1, 3);
        x.answer(1);
        due.chance("mid(0, 5), one answered", x, x.mid(0, 5), 35, 12);
        due.bad("mid(10, 0)", x, () -> x.mid(10, 0));
        due.bad("mid(-1, 0)", x, () -> x.mid(-1, 0));
        due.bad("mid(0, 13)", x, () -> x.mid(0, 13));
        due.bad("mid(0, -1)", x, () -> x.mid(0, -1));
        GlowDebts none = new GlowDebts();
        due.refused("mid(0, 0) without LIGHTS", none, () -> none.mid(0, 0), STATE, 0);
        due.bad("mid(0, 13) without LIGHTS", none, () -> none.mid(0, 13));
    }

    /** By seed 1 the numbers are 48271, 182605794, 1291394886, 1914720637, 2078669041; by seed 4 193084 is the first. */
    private static void lots() {
        GlowDebts x = two();
        due.is("lots(1, 1), LIGHT 1 answered", x.lots(1, 1), 5);
        due.is("undo of a lot", x.undo(0), 1);
        due.is("lots(2, 1), LIGHT 0, too", x.lots(2, 1), 0);
        x.undo(0);
        due.is("lots(3, 1), LIGHT 0 lit again", x.lots(3, 1), 5);
        x.undo(0);
        due.is("lots(5, 1), both carried", x.lots(5, 1), 5);
        due.is("lit behind lots", x.count(3), 1);
        due.is("DEEDS behind lots", x.count(2), 5);
        due.asked("LIGHT 1 behind lots", x, x.light(1, 3), 1, 9);
        due.asked("LIGHT 0 behind lots", x, x.light(0, 3), 1, 3);
        due.is("undo(4)", x.undo(4), 1);
        due.asked("LIGHT 0 back", x, x.light(0, 3), 1, 0);
        x.undo(0);
        due.is("lots(1, 4)", x.lots(1, 4), 8);
        due.is("a NIGHT by lots", x.count(1), 1);
        due.is("lots(20, MAX - 1)", x.lots(20, 2147483646) >= 0 ? 1 : 0, 1);
        due.is("DEEDS behind 21 lots", x.count(2), 21);
        due.refused("lots(20, 1) beyond 40", x, () -> x.lots(20, 1), FULL, 0);
        due.is("lots(19, 1) to 40", x.lots(19, 1) >= 0 ? 1 : 0, 1);
        due.is("DEEDS, all", x.count(2), 40);
        ownPlace();
        due.bad("lots(0, 1)", x, () -> x.lots(0, 1));
        due.bad("lots(21, 1)", x, () -> x.lots(21, 1));
        due.bad("lots(1, 0)", x, () -> x.lots(1, 0));
        due.bad("lots(1, MAX)", x, () -> x.lots(1, Integer.MAX_VALUE));
        due.bad("lots(1, MIN)", x, () -> x.lots(1, Integer.MIN_VALUE));
        GlowDebts none = new GlowDebts();
        due.refused("lots(1, 1) without LIGHTS", none, () -> none.lots(1, 1), STATE, 0);
        due.bad("lots(0, 1) without LIGHTS", none, () -> none.lots(0, 1));
    }

    /** By seed 3 the first number is 144813, so a LIGHT is carried to PLACE 2. */
    private static void ownPlace() {
        GlowDebts x = Due.bank("l0125");
        due.is("lots(1, 3), carried to where it is", x.lots(1, 3), 5);
        due.is("a DEED all the same", x.count(2), 1);
        due.asked("its PLACE still", x, x.light(0, 3), 1, 2);
        due.is("undone", x.undo(0), 1);
        due.asked("its PLACE behind undo", x, x.light(0, 3), 1, 2);
    }
}
