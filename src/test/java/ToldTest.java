/** Promises 42 to 48, and the constants: what is told. */
final class ToldTest {
    private static final int NOTHING = 1, BEYOND = 2, UNLIKE = 3, NOUGHT = 4, SIZE = 5;
    private static final Due due = new Due();

    public static void main(String[] args) {
        constants();
        asked();
        upperLower();
        count();
        findings();
        digest();
        due.end("ToldTest");
    }

    private static void constants() {
        due.is("BAD", GlowDebts.BAD, -1);
        due.is("FULL", GlowDebts.FULL, -2);
        due.is("FINDING", GlowDebts.FINDING, -3);
        due.is("STATE", GlowDebts.STATE, -4);
        due.is("SPENT", GlowDebts.SPENT, -6);
        due.is("NONE", GlowDebts.NONE, -9);
    }

    private static void asked() {
        GlowDebts x = new GlowDebts();
        due.is("asked() at first", x.asked(), 0);
        Due.write(x, 0, "l0126 l1057");
        x.row(0, 4);
        x.bank(0);
        due.is("asked() behind text(), put(), row(), bank()", x.asked(), 0);
        x.lay(0, 0, 77);
        x.at(0, 0);
        due.is("asked() behind at()", x.asked(), 77);
        x.row(1, 4);
        x.copy(0, 0, 1, 0, 1);
        x.glows(0, 3);
        x.bright(0);
        x.along(0, 9);
        x.owes(0);
        x.rings(0);
        x.chain(0, 1, 2);
        x.duel(0, 2);
        x.odds(0, 0, 5);
        x.mid(0, 5);
        x.night();
        x.answer(0);
        x.relight(0);
        x.carry(0, 3);
        x.keep(0);
        x.on(0);
        x.undo(0);
        x.lots(1, 1);
        x.undo(0);
        x.count(0);
        x.digest();
        x.tear(1);
        due.is("asked() behind calls that tell nothing by it", x.asked(), 77);
        x.at(0, 9);
        x.least(1);
        due.is("asked() behind what is refused, or NONE", x.asked(), 3);
        x.mean(0);
        due.is("asked() behind mean()", x.asked(), 19);
    }

    private static void upperLower() {
        GlowDebts x = new GlowDebts();
        due.is("upper() at first", x.upper(), 0);
        due.is("lower() at first", x.lower(), 1);
        x.odds(0, 0, 6);
        due.is("lower() behind STATE", x.lower(), 1);
        Due.write(x, 0, "l0105");
        x.bank(0);
        due.chance("odds(0, 0, 3)", x, x.odds(0, 0, 3), 1, 4);
        x.odds(0, 0, 13);
        x.mid(10, 0);
        x.night();
        due.is("upper() behind BAD", x.upper(), 1);
        due.is("lower() behind BAD", x.lower(), 4);
        due.chance("mid(0, 3)", x, x.mid(0, 3), 15, 4);
        due.chance("odds(0, 4, 0)", x, x.odds(0, 4, 0), 0, 1);
    }

    private static void count() {
        GlowDebts x = Due.bank("l0126 f1057 m2034 d3415 o4501 j0123");
        x.row(0, 0);
        x.row(3, 7);
        x.text(2, 0);
        x.night();
        x.answer(1);
        x.answer(3);
        x.keep(1);
        int[] counts = {6, 1, 3, 1 + 4 + 16 + 32, 6 + 6 + 2 + 2, 2, 2, 2, 2, 1};
        for (int what = 0; what <= 9; what++) {
            due.is("count(" + what + ")", x.count(what), counts[what]);
        }
        due.bad("count(10)", x, () -> x.count(10));
        due.bad("count(-1)", x, () -> x.count(-1));
    }

    private static void findings() {
        GlowDebts x = new GlowDebts();
        due.is("finding() at first", x.finding(), 0);
        for (int f = 1; f <= 5; f++) {
            due.is("findings(" + f + ") at first", x.findings(f), 0);
        }
        Due.write(x, 0, "l0105");
        x.bank(0);
        x.row(0, 0);
        x.tear(5);
        x.on(0);
        x.fault(3);
        due.is("finding() of what is missing", x.finding(), NOTHING);
        x.at(0, 0);
        x.put(0, 5, 0);
        due.is("finding() of a place", x.finding(), BEYOND);
        x.mark(0, 1);
        due.is("finding() of another KIND", x.finding(), UNLIKE);
        x.mean(0);
        due.is("finding() of none", x.finding(), NOUGHT);
        x.row(0, -1);
        due.is("finding() of fewer than none", x.finding(), SIZE);
        x.row(9, -1);
        x.relight(0);
        due.is("finding() behind BAD, STATE", x.finding(), SIZE);
        int[] many = {0, 3, 2, 1, 1, 1};
        for (int f = 1; f <= 5; f++) {
            due.is("findings(" + f + ")", x.findings(f), many[f]);
        }
        due.bad("findings(0)", x, () -> x.findings(0));
        due.bad("findings(6)", x, () -> x.findings(6));
        due.bad("findings(-1)", x, () -> x.findings(-1));
    }

    private static long fold(long... values) {
        long h = 17;
        for (long v : values) {
            h = 31 * h + v;
        }
        return h;
    }

    private static void digest() {
        GlowDebts x = new GlowDebts();
        due.is("digest() at first", x.digest(), fold(0, 0, 0, 0, 0, 0, 0, 0, 0, 0,
                -1, -1, -1, -1, -1, -1, -1, -1, -1, -1, -1, -1, -1));
        Due.write(x, 1, "d0125 f1037");
        x.bank(1);
        x.night();
        x.keep(1);
        x.answer(0);
        Due.lay(x, 4, 7, -8);
        x.row(5, 0);
        x.text(3, 1);
        x.put(3, 0, 255);
        x.at(4, 0);
        due.is("digest()", x.digest(), fold(2, 1, 2, 2, 3, 1, 1, 2, 2, 1,
                2, 0, 1, 2, 5, 0, 6, 3, 1, 0, 3, 7, 1, 3,
                -1, 1, -1,
                -1, -1, -1, -1, 2, 7, -8, 0,
                -1, 11, 'd', '0', '1', '2', '5', ' ', 'f', '1', '0', '3', '7', -1, 1, -1));
        due.is("asked() behind digest()", x.asked(), 7);
        due.is("finding() behind digest()", x.finding(), 0);
    }
}
