/** Promises 28 to 33: rings of debts. */
final class RingsTest {
    private static final int STATE = GlowDebts.STATE, NONE = GlowDebts.NONE;
    private static final Due due = new Due();

    public static void main(String[] args) {
        owes();
        ring();
        rings();
        least();
        chain();
        dim();
        due.end("RingsTest");
    }

    /** Debts 0 to 1, 1 to 2, 2 to 0, 1 to 0; forged ones 1 to 0, 0 to 3. */
    private static GlowDebts bank() {
        return Due.bank("l0109 j1209 o2009 d1009 f1009 m0309");
    }

    private static void owes() {
        GlowDebts x = bank();
        int[] owes = {99, 101, 100, 100, 100, 100};
        for (int one = 0; one < 6; one++) {
            due.is("owes(" + one + ")", x.owes(one), owes[one]);
        }
        x.answer(3);
        due.is("owes(0), one answered", x.owes(0), 100);
        due.is("owes(1), one answered", x.owes(1), 100);
        x.relight(3);
        due.is("owes(0), lit again", x.owes(0), 99);
        GlowDebts all = Due.bank("l0109 l0209 l0309 l0409 l0509 l0109 l0109 l0109");
        due.is("owes(0), eight", all.owes(0), 108);
        due.is("owes(1), to whom four are owed", all.owes(1), 96);
        due.is("owes(0) without LIGHTS", new GlowDebts().owes(0), 100);
        due.bad("owes(6)", x, () -> x.owes(6));
        due.bad("owes(-1)", x, () -> x.owes(-1));
    }

    private static void ring() {
        GlowDebts x = bank();
        due.asked("ring()", x, x.ring(), 3, 7);
        x.answer(1);
        due.asked("ring(), one answered", x, x.ring(), 2, 9);
        x.answer(0);
        due.asked("ring(), two answered", x, x.ring(), 0, 0);
        GlowDebts like = Due.bank("l0109 l0109 l1009");
        due.asked("ring(), of like ones the least", like, like.ring(), 2, 5);
        GlowDebts two = Due.bank("l0109 l2309 l1009 l3209 l4509 l5409");
        due.asked("ring() of all", two, two.ring(), 6, 63);
        GlowDebts none = new GlowDebts();
        due.refused("ring() without LIGHTS", none, none::ring, STATE, 0);
    }

    private static void rings() {
        GlowDebts x = bank();
        int[] rings = {2, 1, 1, 1, 0, 0};
        for (int k = 0; k < 6; k++) {
            due.is("rings(" + k + ")", x.rings(k), rings[k]);
        }
        x.answer(0);
        due.is("rings(0), answered", x.rings(0), 0);
        due.is("rings(3), another one answered", x.rings(3), 0);
        GlowDebts all = Due.bank("l0109 l0109 l0109 l0109 l1009 l1009 l1009 l1009");
        due.is("rings(0), as many there as back", all.rings(0), 35);
        due.bad("rings(6)", x, () -> x.rings(6));
        due.bad("rings(-1)", x, () -> x.rings(-1));
    }

    private static void least() {
        GlowDebts x = bank();
        due.asked("least(0)", x, x.least(0), 2, 9);
        due.asked("least(1)", x, x.least(1), 3, 7);
        due.asked("least(2)", x, x.least(2), 3, 7);
        due.asked("least(3)", x, x.least(3), 2, 9);
        due.refused("least(4), forged", x, () -> x.least(4), NONE, 0);
        x.answer(3);
        due.asked("least(0), one answered", x, x.least(0), 3, 7);
        due.refused("least(3), answered", x, () -> x.least(3), NONE, 0);
        GlowDebts like = Due.bank("l1009 l0109 l0109");
        due.asked("least(0), of like few the least", like, like.least(0), 2, 3);
        due.asked("least(2)", like, like.least(2), 2, 5);
        due.bad("least(6)", x, () -> x.least(6));
        due.bad("least(-1)", x, () -> x.least(-1));
    }

    private static void chain() {
        GlowDebts x = bank();
        x.row(4, 9);
        due.is("chain(0, 2, 4)", x.chain(0, 2, 4), 2);
        due.holds("a chain of two", x, 4, 0, 1);
        due.is("chain(1, 0, 4)", x.chain(1, 0, 4), 1);
        due.holds("a chain of one", x, 4, 3);
        due.refused("chain(0, 3, 4), a forged one alone", x, () -> x.chain(0, 3, 4), NONE, 0);
        due.refused("chain(3, 0, 5), a missing row", x, () -> x.chain(3, 0, 5), NONE, 0);
        due.is("chain(2, 1, 3)", x.chain(2, 1, 3), 2);
        due.holds("a chain in a new row", x, 3, 2, 0);
        due.is("chain(3, 3, 4)", x.chain(3, 3, 4), 0);
        due.holds("a chain of none", x, 4);
        x.answer(3);
        due.is("chain(1, 0, 4), one answered", x.chain(1, 0, 4), 2);
        due.holds("a chain the other way", x, 4, 1, 2);
        GlowDebts like = Due.bank("l0409 l0109 l0209 l2309 l1309 l1309");
        due.is("chain(0, 3, 0)", like.chain(0, 3, 0), 2);
        due.holds("the lowest first, then the lowest second", like, 0, 1, 4);
        GlowDebts far = Due.bank("l4509 l3409 l2309 l1209 l0109 l0109 l5009");
        due.is("chain(0, 5, 0)", far.chain(0, 5, 0), 5);
        due.holds("the longest", far, 0, 4, 3, 2, 1, 0);
        due.is("chain(0, 0, 0) without LIGHTS", new GlowDebts().chain(0, 0, 0), 0);
        due.bad("chain(6, 0, 0)", x, () -> x.chain(6, 0, 0));
        due.bad("chain(-1, 0, 0)", x, () -> x.chain(-1, 0, 0));
        due.bad("chain(0, 6, 0)", x, () -> x.chain(0, 6, 0));
        due.bad("chain(0, -1, 0)", x, () -> x.chain(0, -1, 0));
        due.bad("chain(0, 1, 6)", x, () -> x.chain(0, 1, 6));
        due.bad("chain(0, 1, -1)", x, () -> x.chain(0, 1, -1));
    }

    private static void dim() {
        GlowDebts x = Due.bank("l0102 f0106 d0104");
        due.asked("dim(0, 9)", x, x.dim(0, 9), 0, 0);
        due.asked("dim(0, 8)", x, x.dim(0, 8), 1, 1);
        due.asked("dim(0, 6)", x, x.dim(0, 6), 1, 2);
        due.asked("dim(0, 5)", x, x.dim(0, 5), 1, 4);
        due.asked("dim(0, 4)", x, x.dim(0, 4), 2, 3);
        due.asked("dim(0, 3)", x, x.dim(0, 3), 2, 5);
        due.asked("dim(0, 0)", x, x.dim(0, 0), 3, 7);
        due.asked("dim(9, 0)", x, x.dim(9, 0), 0, 0);
        x.answer(2);
        due.asked("dim(0, 4), one answered", x, x.dim(0, 4), 1, 1);
        due.asked("dim(0, 99), one answered", x, x.dim(0, 99), 0, 0);
        due.is("DEEDS behind dim", x.count(2), 1);
        due.bad("dim(10, 0)", x, () -> x.dim(10, 0));
        due.bad("dim(-1, 0)", x, () -> x.dim(-1, 0));
        due.bad("dim(0, 100)", x, () -> x.dim(0, 100));
        due.bad("dim(0, -1)", x, () -> x.dim(0, -1));
        GlowDebts none = new GlowDebts();
        due.asked("dim(0, 0) without LIGHTS", none, none.dim(0, 0), 0, 0);
    }
}
