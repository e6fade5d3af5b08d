/** Promises 22 to 27: how bright it is. */
final class BrightTest {
    private static final int STATE = GlowDebts.STATE, NONE = GlowDebts.NONE;
    private static final Due due = new Due();
    private static final int[] BRIGHT = {2, 4, 7, 7, 7, 7, 5, 3, 1, 0};

    public static void main(String[] args) {
        bright();
        along();
        when();
        stow();
        dark();
        road();
        due.end("BrightTest");
    }

    /** As bright as BRIGHT tells. */
    private static GlowDebts two() {
        return Due.bank("l0126 l1057");
    }

    private static void bright() {
        GlowDebts x = two();
        for (int place = 0; place < 10; place++) {
            due.is("bright(" + place + ")", x.bright(place), BRIGHT[place]);
        }
        x.answer(1);
        due.is("bright(2), one answered", x.bright(2), 6);
        x.carry(0, 9);
        due.is("bright(2), one carried", x.bright(2), 0);
        due.is("bright(8), one carried", x.bright(8), 4);
        due.is("bright(0) without LIGHTS", new GlowDebts().bright(0), 0);
        GlowDebts dewy = Due.bank("d0105");
        dewy.night();
        due.is("bright(1) in NIGHT 1", dewy.bright(1), 4);
        due.bad("bright(10)", x, () -> x.bright(10));
        due.bad("bright(-1)", x, () -> x.bright(-1));
    }

    private static void along() {
        GlowDebts x = two();
        for (int from = 0; from < 10; from++) {
            int together = 0;
            for (int to = from; to < 10; to++) {
                together += BRIGHT[to];
                due.is("along(" + from + ", " + to + ")", x.along(from, to), together);
            }
        }
        due.is("along(0, 9) without LIGHTS", new GlowDebts().along(0, 9), 0);
        due.bad("along(3, 2)", x, () -> x.along(3, 2));
        due.bad("along(-1, 2)", x, () -> x.along(-1, 2));
        due.bad("along(0, 10)", x, () -> x.along(0, 10));
    }

    private static void when() {
        GlowDebts x = Due.bank("d0105");
        due.asked("when(0, 0)", x, x.when(0, 0), 0, 5);
        due.asked("when(0, 5)", x, x.when(0, 5), 0, 5);
        due.asked("when(0, 8)", x, x.when(0, 8), 3, 8);
        due.asked("when(1, 8)", x, x.when(1, 8), 5, 8);
        due.asked("when(0, 20)", x, x.when(0, 20), 15, 20);
        due.refused("when(0, 21)", x, () -> x.when(0, 21), NONE, 0);
        due.refused("when(0, 200)", x, () -> x.when(0, 200), NONE, 0);
        x.night();
        x.night();
        due.asked("when(0, 8) in NIGHT 2", x, x.when(0, 8), 1, 8);
        due.is("the NIGHT behind when", x.count(1), 2);
        x.answer(0);
        due.refused("when(0, 1), answered", x, () -> x.when(0, 1), NONE, 0);
        due.bad("when(10, 0)", x, () -> x.when(10, 0));
        due.bad("when(-1, 0)", x, () -> x.when(-1, 0));
        due.bad("when(0, 201)", x, () -> x.when(0, 201));
        due.bad("when(0, -1)", x, () -> x.when(0, -1));
        GlowDebts late = Due.bank("f0109");
        for (int i = 0; i < 40; i++) {
            late.night();
        }
        due.asked("when(0, 1) in NIGHT 40", late, late.when(0, 1), 1, 1);
        GlowDebts many = Due.bank("d0100 d0100 d0100 d0100 d0100 d0100 d0100 d0100");
        due.asked("when(0, 160)", many, many.when(0, 160), 20, 160);
        due.asked("when(9, 9)", many, many.when(9, 9), 20, 16);
        GlowDebts last = Due.bank("d0190");
        for (int i = 0; i < 4; i++) {
            last.night();
        }
        due.refused("when(0, 3)", last, () -> last.when(0, 3), NONE, 0);
        GlowDebts none = new GlowDebts();
        due.asked("when(0, 0) without LIGHTS", none, none.when(0, 0), 0, 0);
        due.refused("when(0, 1) without LIGHTS", none, () -> none.when(0, 1), NONE, 0);
    }

    private static void stow() {
        GlowDebts x = two();
        due.asked("stow(0, 0, 9)", x, x.stow(0, 0, 9), 0, 12 + 25);
        due.asked("stow(0, 0, 1)", x, x.stow(0, 0, 1), 4, 0);
        due.asked("stow(1, 0, 5)", x, x.stow(1, 0, 5), 9, 6 + 4 + 4 + 2 + 2);
        due.asked("stow(0, 9, 9), its own PLACE would do as well", x, x.stow(0, 9, 9), 0, 0);
        GlowDebts low = Due.bank("l0152");
        due.asked("stow(0, 0, 0), PLACE 1 is far enough", low, low.stow(0, 0, 0), 1, 0);
        due.is("the PLACE behind stow", x.count(2), 0);
        GlowDebts own = Due.bank("l0125 l1097");
        due.asked("stow(0, 5, 9), the first of like ones", own, own.stow(0, 5, 9), 0, 7 + 5 + 3 + 1);
        due.asked("stow(0, 0, 0), the first far enough", own, own.stow(0, 0, 0), 3, 0);
        own.carry(0, 3);
        due.asked("stow(0, 0, 0), it is there", own, own.stow(0, 0, 0), 3, 0);
        own.answer(0);
        due.asked("stow(0, 0, 0), answered", own, own.stow(0, 0, 0), 0, 0);
        due.asked("stow(0, 8, 9), answered", own, own.stow(0, 8, 9), 0, 12);
        due.bad("stow(2, 0, 0)", x, () -> x.stow(2, 0, 0));
        due.bad("stow(-1, 0, 0)", x, () -> x.stow(-1, 0, 0));
        due.bad("stow(0, 1, 0)", x, () -> x.stow(0, 1, 0));
        due.bad("stow(0, -1, 0)", x, () -> x.stow(0, -1, 0));
        due.bad("stow(0, 0, 10)", x, () -> x.stow(0, 0, 10));
    }

    private static void dark() {
        GlowDebts x = two();
        due.asked("dark(1)", x, x.dark(1), 9, 0);
        due.asked("dark(2)", x, x.dark(2), 8, 1);
        due.asked("dark(9)", x, x.dark(9), 1, 41);
        GlowDebts high = Due.bank("l0109 l0189");
        due.asked("dark(2) between", high, high.dark(2), 3, 3 + 1 + 1);
        due.asked("dark(10)", x, x.dark(10), 0, 43);
        GlowDebts like = Due.bank("l0143 l0153");
        due.asked("dark(3), the first of like ones", like, like.dark(3), 0, 0);
        x.answer(0);
        x.answer(1);
        due.asked("dark(4), all answered", x, x.dark(4), 0, 0);
        due.bad("dark(0)", x, () -> x.dark(0));
        due.bad("dark(11)", x, () -> x.dark(11));
        GlowDebts none = new GlowDebts();
        due.refused("dark(1) without LIGHTS", none, () -> none.dark(1), STATE, 0);
        due.bad("dark(11) without LIGHTS", none, () -> none.dark(11));
    }

    private static void road() {
        GlowDebts x = two();
        due.asked("road()", x, x.road(), 1 + 2 + 3 + 3 + 3 + 3 + 2 + 1, 1023);
        x.answer(0);
        x.answer(1);
        due.asked("road(), all answered", x, x.road(), 0, 0);
        GlowDebts dim = Due.bank("l0101");
        due.asked("road(), bright in PLACE 0 alone", dim, dim.road(), 0, 1023);
        GlowDebts none = new GlowDebts();
        due.refused("road() without LIGHTS", none, none::road, STATE, 0);
    }
}
