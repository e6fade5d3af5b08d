/** Promises 1 to 14: rows, texts, banks. */
final class RowsTextsBanksTest {
    private static final int NOTHING = 1, BEYOND = 2, UNLIKE = 3, NOUGHT = 4, SIZE = 5;
    private static final Due due = new Due();

    public static void main(String[] args) {
        newObject();
        row();
        lay();
        at();
        tear();
        copy();
        mean();
        text();
        put();
        fault();
        bank();
        light();
        mark();
        glows();
        due.end("RowsTextsBanksTest");
    }

    private static void newObject() {
        GlowDebts x = new GlowDebts();
        for (int what = 0; what <= 9; what++) {
            due.is("new: count(" + what + ")", x.count(what), 0);
        }
        for (int r = 0; r < 6; r++) {
            int missing = r;
            due.found("new: tear(" + r + ")", x, () -> x.tear(missing), NOTHING);
        }
        for (int t = 0; t < 4; t++) {
            int missing = t;
            due.found("new: fault(" + t + ")", x, () -> x.fault(missing), NOTHING);
        }
        due.bad("new: light(0, 0)", x, () -> x.light(0, 0));
        due.is("new: asked()", new GlowDebts().asked(), 0);
        due.is("new: upper()", new GlowDebts().upper(), 0);
        due.is("new: lower()", new GlowDebts().lower(), 1);
        due.is("new: finding()", new GlowDebts().finding(), 0);
    }

    private static void row() {
        GlowDebts x = new GlowDebts();
        due.is("row(5, 40)", x.row(5, 40), 40);
        due.is("row(0, 0)", x.row(0, 0), 0);
        due.is("row(2, 3)", x.row(2, 3), 3);
        due.holds("a new row", x, 2, 0, 0, 0);
        x.lay(2, 1, 9);
        due.is("row(2, 2) anew", x.row(2, 2), 2);
        due.holds("a row anew", x, 2, 0, 0);
        due.is("count(7)", x.count(7), 3);
        due.bad("row(6, 0)", x, () -> x.row(6, 0));
        due.bad("row(-1, 0)", x, () -> x.row(-1, 0));
        due.bad("row(0, 41)", x, () -> x.row(0, 41));
        due.bad("row(6, -1)", x, () -> x.row(6, -1));
        due.bad("row(0, MAX)", x, () -> x.row(0, Integer.MAX_VALUE));
        due.found("row(0, -1)", x, () -> x.row(0, -1), SIZE);
        due.found("row(0, MIN)", x, () -> x.row(0, Integer.MIN_VALUE), SIZE);
    }

    private static void lay() {
        GlowDebts x = new GlowDebts();
        x.row(1, 2);
        due.asked("lay(1, 1, MIN)", x, x.lay(1, 1, Integer.MIN_VALUE), 1, 0);
        due.asked("lay(1, 1, 7)", x, x.lay(1, 1, 7), 1, Integer.MIN_VALUE);
        due.asked("lay(1, 0, 3)", x, x.lay(1, 0, 3), 1, 0);
        due.holds("what was laid", x, 1, 3, 7);
        due.bad("lay(6, 0, 1)", x, () -> x.lay(6, 0, 1));
        due.bad("lay(-1, 0, 1)", x, () -> x.lay(-1, 0, 1));
        due.found("lay(0, 0, 1)", x, () -> x.lay(0, 0, 1), NOTHING);
        due.found("lay(1, 2, 1)", x, () -> x.lay(1, 2, 1), BEYOND);
        due.found("lay(1, -1, 1)", x, () -> x.lay(1, -1, 1), BEYOND);
    }

    private static void at() {
        GlowDebts x = new GlowDebts();
        Due.lay(x, 4, 5, -6, 7);
        due.asked("at(4, 0)", x, x.at(4, 0), 1, 5);
        due.asked("at(4, 1)", x, x.at(4, 1), 1, -6);
        due.asked("at(4, 2)", x, x.at(4, 2), 1, 7);
        due.bad("at(6, 0)", x, () -> x.at(6, 0));
        due.bad("at(-1, 0)", x, () -> x.at(-1, 0));
        due.found("at(3, 0)", x, () -> x.at(3, 0), NOTHING);
        due.found("at(4, 3)", x, () -> x.at(4, 3), BEYOND);
        due.found("at(4, -1)", x, () -> x.at(4, -1), BEYOND);
    }

    private static void tear() {
        GlowDebts x = new GlowDebts();
        x.row(3, 5);
        x.row(0, 0);
        due.is("tear(3)", x.tear(3), 1);
        due.is("tear(0)", x.tear(0), 1);
        due.is("count(7) behind tear", x.count(7), 0);
        due.found("tear(3) again", x, () -> x.tear(3), NOTHING);
        due.found("at(3, 0) behind tear", x, () -> x.at(3, 0), NOTHING);
        due.bad("tear(6)", x, () -> x.tear(6));
        due.bad("tear(-1)", x, () -> x.tear(-1));
    }

    private static void copy() {
        GlowDebts x = new GlowDebts();
        Due.lay(x, 0, 1, 2, 3, 4, 5);
        x.row(1, 3);
        due.is("copy(0, 1, 1, 0, 3)", x.copy(0, 1, 1, 0, 3), 1);
        due.holds("a copy", x, 1, 2, 3, 4);
        due.is("copy up in itself", x.copy(0, 0, 0, 1, 4), 1);
        due.holds("copied up in itself", x, 0, 1, 1, 2, 3, 4);
        due.is("copy down in itself", x.copy(0, 1, 0, 0, 4), 1);
        due.holds("copied down in itself", x, 0, 1, 2, 3, 4, 4);
        due.is("copy of none at the ends", x.copy(0, 5, 1, 3, 0), 1);
        x.row(2, 0);
        due.is("copy of none to an empty row", x.copy(2, 0, 2, 0, 0), 1);
        due.bad("copy from no row", x, () -> x.copy(6, 0, 1, 0, -1));
        due.bad("copy to no row", x, () -> x.copy(0, 0, -1, 0, -1));
        due.found("copy of fewer than none, of a missing row", x, () -> x.copy(5, 0, 0, 0, -1), SIZE);
        due.found("copy of a missing row, beyond", x, () -> x.copy(5, 9, 0, 0, 1), NOTHING);
        due.found("copy to a missing row", x, () -> x.copy(0, 0, 5, 0, 1), NOTHING);
        due.found("copy of too many", x, () -> x.copy(0, 3, 1, 0, 3), BEYOND);
        due.found("copy of too many there", x, () -> x.copy(0, 0, 1, 1, 3), BEYOND);
        due.found("copy of none from below", x, () -> x.copy(0, -1, 1, 0, 0), BEYOND);
        due.found("copy of none to below", x, () -> x.copy(0, 0, 1, -1, 0), BEYOND);
        due.found("copy of none from above", x, () -> x.copy(0, 6, 1, 0, 0), BEYOND);
        due.found("copy of none to above", x, () -> x.copy(0, 0, 1, 4, 0), BEYOND);
        due.found("copy of MAX", x, () -> x.copy(0, 1, 1, 0, Integer.MAX_VALUE), BEYOND);
        due.found("copy from MAX", x, () -> x.copy(0, Integer.MAX_VALUE, 1, 0, 1), BEYOND);
        due.found("copy from MIN", x, () -> x.copy(0, Integer.MIN_VALUE, 1, 0, Integer.MAX_VALUE), BEYOND);
    }

    private static void mean() {
        GlowDebts x = new GlowDebts();
        Due.lay(x, 0, 1, 2, 5);
        due.asked("mean of 1, 2, 5", x, x.mean(0), 1, 2);
        Due.lay(x, 0, 0, 3);
        due.asked("mean of 0, 3", x, x.mean(0), 1, 1);
        Due.lay(x, 0, 0, -3);
        due.asked("mean of 0, -3", x, x.mean(0), 1, -1);
        Due.lay(x, 0, Integer.MAX_VALUE, Integer.MAX_VALUE, Integer.MAX_VALUE);
        due.asked("mean of MAX, MAX, MAX", x, x.mean(0), 1, Integer.MAX_VALUE);
        Due.lay(x, 0, Integer.MIN_VALUE, Integer.MIN_VALUE);
        due.asked("mean of MIN, MIN", x, x.mean(0), 1, Integer.MIN_VALUE);
        x.row(1, 0);
        due.found("mean of none", x, () -> x.mean(1), NOUGHT);
        due.found("mean of a missing row", x, () -> x.mean(2), NOTHING);
        due.bad("mean(6)", x, () -> x.mean(6));
        due.bad("mean(-1)", x, () -> x.mean(-1));
    }

    private static void text() {
        GlowDebts x = new GlowDebts();
        due.is("text(3, 60)", x.text(3, 60), 60);
        due.is("text(0, 0)", x.text(0, 0), 0);
        due.is("text(1, 2)", x.text(1, 2), 2);
        due.is("a blank", x.put(1, 1, 5), 1032);
        due.is("text(1, 2) anew", x.text(1, 2), 2);
        due.is("a blank anew", x.put(1, 1, 5), 1032);
        due.is("count(8)", x.count(8), 3);
        due.is("count(7) beside texts", x.count(7), 0);
        due.bad("text(4, 0)", x, () -> x.text(4, 0));
        due.bad("text(-1, 0)", x, () -> x.text(-1, 0));
        due.bad("text(0, 61)", x, () -> x.text(0, 61));
        due.bad("text(4, -1)", x, () -> x.text(4, -1));
        due.found("text(0, -1)", x, () -> x.text(0, -1), SIZE);
    }

    private static void put() {
        GlowDebts x = new GlowDebts();
        x.text(2, 3);
        due.is("put(2, 0, 127)", x.put(2, 0, 127), 1032);
        due.is("put(2, 0, 128)", x.put(2, 0, 128), 1127);
        due.is("put(2, 0, -129)", x.put(2, 0, -129), 872);
        due.is("put(2, 0, 1000)", x.put(2, 0, 1000), 1127);
        due.is("put(2, 0, 0)", x.put(2, 0, 0), 976);
        due.is("put(2, 2, 1)", x.put(2, 2, 1), 1032);
        due.is("asked() behind put", x.asked(), 0);
        due.bad("put(4, 0, 0)", x, () -> x.put(4, 0, 0));
        due.bad("put(-1, 0, 0)", x, () -> x.put(-1, 0, 0));
        due.found("put(0, 0, 0)", x, () -> x.put(0, 0, 0), NOTHING);
        due.found("put(2, 3, 0)", x, () -> x.put(2, 3, 0), BEYOND);
        due.found("put(2, -1, 0)", x, () -> x.put(2, -1, 0), BEYOND);
    }

    private static void fault(String words, int place) {
        GlowDebts x = new GlowDebts();
        Due.write(x, 1, words);
        due.is("fault of '" + words + "'", x.fault(1), place);
        if (place == GlowDebts.NONE) {
            due.is("lights of '" + words + "'", x.bank(1), words.replace(" ", "").length() / 5);
        } else {
            due.refused("bank of '" + words + "'", x, () -> x.bank(1), GlowDebts.STATE, 0);
        }
    }

    private static void fault() {
        int none = GlowDebts.NONE;
        String eight = "l0100l0100l0100l0100l0100l0100l0100l0100";
        fault("", 0);
        fault("   ", 3);
        fault("l0100", none);
        fault("  j5499   d4599 ", none);
        fault("f0100o0100m0100", none);
        fault(eight, none);
        fault(" " + eight + "  ", none);
        fault(eight + "l0100", 40);
        fault(eight + " l", 41);
        fault(eight + "?", 40);
        fault("k0100", 0);
        fault(" L0100", 1);
        fault("0l100", 0);
        fault("l6100", 1);
        fault("l/100", 1);
        fault("l0600", 2);
        fault("l0000", 2);
        fault("l5500", 2);
        fault("l01:0", 3);
        fault("l010:", 4);
        fault("l01x0", 3);
        fault("l01 00", 3);
        fault("l 0100", 1);
        fault("l", 1);
        fault("l0100 l010", 10);
        fault("l0100 l01x", 9);
        fault("l01001", 5);
        fault("l0100 l0100x", 11);
        GlowDebts x = new GlowDebts();
        due.bad("fault(4)", x, () -> x.fault(4));
        due.bad("fault(-1)", x, () -> x.fault(-1));
        due.found("fault(3)", x, () -> x.fault(3), NOTHING);
        x.text(0, 5);
        x.put(0, 0, 108 - 256);
        due.is("fault of a letter by its byte", x.fault(0), 1);
    }

    private static void bank() {
        GlowDebts x = Due.bank("l0125 d1036");
        x.night();
        x.answer(1);
        x.keep(0);
        x.keep(2);
        Due.write(x, 3, "m5498");
        due.is("bank(3)", x.bank(3), 1);
        due.is("bank: LIGHTS", x.count(0), 1);
        due.is("bank: the NIGHT", x.count(1), 0);
        due.is("bank: DEEDS", x.count(2), 0);
        due.is("bank: lit", x.count(3), 1);
        due.is("bank: kept BANKS", x.count(9), 0);
        int[] parts = {5, 5, 4, 9, 8, 1, 5};
        for (int what = 0; what <= 6; what++) {
            due.asked("bank: light(0, " + what + ")", x, x.light(0, what), 1, parts[what]);
        }
        x.night();
        x.keep(1);
        Due.write(x, 2, "x");
        due.refused("bank of a fault", x, () -> x.bank(2), GlowDebts.STATE, 0);
        due.found("bank(1)", x, () -> x.bank(1), NOTHING);
        due.bad("bank(4)", x, () -> x.bank(4));
        due.bad("bank(-1)", x, () -> x.bank(-1));
        due.is("a kept BANK behind refused ones", x.count(9), 1);
    }

    private static void light() {
        GlowDebts x = Due.bank("l0125 j1258 d2304 f3471 o4587 m5096");
        int[][] parts = {{0, 0, 1, 2, 5, 1, 5}, {1, 1, 2, 5, 8, 1, 4}, {2, 2, 3, 0, 4, 1, 4},
            {3, 3, 4, 7, 1, 1, 8}, {4, 4, 5, 8, 7, 1, 7}, {5, 5, 0, 9, 6, 1, 5}};
        for (int k = 0; k < 6; k++) {
            for (int what = 0; what <= 6; what++) {
                due.asked("light(" + k + ", " + what + ")", x, x.light(k, what), 1, parts[k][what]);
            }
        }
        x.night();
        x.answer(2);
        x.carry(2, 6);
        due.asked("light(2, 3) carried", x, x.light(2, 3), 1, 6);
        due.asked("light(2, 4) in NIGHT 1", x, x.light(2, 4), 1, 4);
        due.asked("light(2, 5) answered", x, x.light(2, 5), 1, 0);
        due.asked("light(2, 6) answered", x, x.light(2, 6), 1, 5);
        due.asked("light(3, 6) in NIGHT 1", x, x.light(3, 6), 1, 9);
        due.bad("light(6, 0)", x, () -> x.light(6, 0));
        due.bad("light(-1, 0)", x, () -> x.light(-1, 0));
        due.bad("light(0, 7)", x, () -> x.light(0, 7));
        due.bad("light(0, -1)", x, () -> x.light(0, -1));
    }

    private static void mark() {
        GlowDebts x = Due.bank("l0105 j0107 d0105 f0103 o0106 m0107");
        due.is("mark of a JAR", x.mark(1, 1), 3);
        due.is("mark of a DEW one in NIGHT 0", x.mark(2, 2), 100);
        due.is("mark of a FORGED one", x.mark(3, 3), 97);
        due.is("mark of an OLD one in NIGHT 0", x.mark(4, 4), 0);
        due.is("mark of an OLD one as DEW", x.mark(4, 2), 100);
        due.is("mark of a LAMP", x.mark(5, 5), 3);
        due.is("mark of a LAMP as FORGED", x.mark(5, 3), 102);
        for (int i = 0; i < 7; i++) {
            x.night();
        }
        x.answer(2);
        due.is("mark of a DEW one in NIGHT 7", x.mark(2, 2), 107);
        due.is("mark of a FORGED one in NIGHT 7", x.mark(3, 3), 96);
        due.is("mark of an OLD one in NIGHT 7", x.mark(4, 4), 7);
        due.is("mark of an OLD one as DEW in NIGHT 7", x.mark(4, 2), 100);
        due.is("mark of a LAMP in NIGHT 7", x.mark(5, 5), 2);
        due.is("mark of a JAR in NIGHT 7", x.mark(1, 1), 3);
        boolean[][] is = {{}, {false, true, false, false, false, false}, {false, false, true, false, true, false},
            {false, false, false, true, false, true}, {false, false, false, false, true, false},
            {false, false, false, false, false, true}};
        for (int kind = 1; kind <= 5; kind++) {
            for (int k = 0; k < 6; k++) {
                int one = k;
                int of = kind;
                if (!is[kind][k]) {
                    due.found("mark(" + k + ", " + kind + ")", x, () -> x.mark(one, of), UNLIKE);
                }
            }
        }
        due.bad("mark(0, 0)", x, () -> x.mark(0, 0));
        due.bad("mark(0, 6)", x, () -> x.mark(0, 6));
        due.bad("mark(0, -1)", x, () -> x.mark(0, -1));
        due.bad("mark(6, 1)", x, () -> x.mark(6, 1));
        due.bad("mark(-1, 1)", x, () -> x.mark(-1, 1));
    }

    private static void glows(String words, int... nightsAndGlows) {
        GlowDebts x = Due.bank(words);
        for (int i = 0; i < nightsAndGlows.length; i += 2) {
            due.is("'" + words + "' in NIGHT " + nightsAndGlows[i], x.glows(0, nightsAndGlows[i]), nightsAndGlows[i + 1]);
        }
    }

    private static void glows() {
        glows("l0107", 0, 7, 1, 7, 99, 7);
        glows("j0107", 0, 4, 5, 4, 99, 4);
        glows("j0108", 0, 4, 99, 4);
        glows("j0100", 0, 0);
        glows("j0101", 0, 1);
        glows("d0105", 0, 5, 3, 8, 14, 19, 15, 20, 16, 20, 99, 20);
        glows("f0103", 0, 6, 1, 7, 2, 6, 99, 7);
        glows("f0109", 0, 0, 1, 1);
        glows("f0100", 0, 9, 1, 10);
        glows("o0105", 0, 5, 4, 9, 5, 5, 6, 5, 7, 6, 14, 9, 15, 10, 99, 10);
        glows("m0107", 0, 5, 1, 5);
        glows("m0104", 0, 5, 1, 6);
        glows("m0102", 0, 7, 1, 8);
        GlowDebts x = Due.bank("d0105");
        x.night();
        x.answer(0);
        due.is("glows of an answered one, NIGHTS from 0", x.glows(0, 2), 7);
        due.bad("glows(0, 100)", x, () -> x.glows(0, 100));
        due.bad("glows(0, -1)", x, () -> x.glows(0, -1));
        due.bad("glows(1, 0)", x, () -> x.glows(1, 0));
        due.bad("glows(-1, 0)", x, () -> x.glows(-1, 0));
    }
}
