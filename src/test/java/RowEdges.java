import java.util.function.Supplier;

/** Promises 1 to 14, sentence by sentence. */
final class RowEdges {
    private static final int MIN = Integer.MIN_VALUE, MAX = Integer.MAX_VALUE;
    private final Sentences s;

    RowEdges(Sentences s) {
        this.s = s;
    }

    void all() {
        newObject();
        row();
        lay();
        at();
        tear();
        copy();
        copyRefused();
        mean();
        text();
        put();
        fault();
        bank();
        light();
        mark();
        glows();
    }

    private static Supplier<GlowDebts> rowsOf(int n) {
        return () -> {
            GlowDebts x = new GlowDebts();
            for (int r = 0; r < 6; r++) {
                x.row(r, n);
            }
            return x;
        };
    }

    private static Supplier<GlowDebts> textsOf(String words) {
        return () -> {
            GlowDebts x = new GlowDebts();
            for (int t = 0; t < 4; t++) {
                Due.write(x, t, words);
            }
            return x;
        };
    }

    private void newObject() {
        s.test(1, "No ROWS, TEXTS, LIGHTS.", () -> {
            GlowDebts x = new GlowDebts();
            s.is("ROWS", x.count(7), 0);
            s.is("TEXTS", x.count(8), 0);
            s.is("LIGHTS", x.count(0), 0);
            s.found("at(0, 0)", x, () -> x.at(0, 0), Sentences.NOTHING);
            s.found("fault(0)", x, () -> x.fault(0), Sentences.NOTHING);
            s.bad("light(0, 0)", x, () -> x.light(0, 0));
            s.bad("glows(0, 0)", x, () -> x.glows(0, 0));
            s.bad("answer(0)", x, () -> x.answer(0));
            s.bad("carry(0, 0)", x, () -> x.carry(0, 0));
            s.bad("stow(0, 0, 0)", x, () -> x.stow(0, 0, 0));
            s.bad("rings(0)", x, () -> x.rings(0));
            s.bad("least(0)", x, () -> x.least(0));
        });
    }

    private void row() {
        s.test(2, "A ROW is there with n ints 0: n.", () -> {
            GlowDebts x = new GlowDebts();
            s.is("row(0, 3)", x.row(0, 3), 3);
            s.holds("ROW 0", x, 0, 0, 0, 0);
            Due.lay(x, 0, 5, 6, 7);
            s.is("row(0, 2), anew", x.row(0, 2), 2);
            s.holds("ROW 0 anew", x, 0, 0, 0);
            s.is("row(0, 3), wider", x.row(0, 3), 3);
            s.holds("ROW 0 wider", x, 0, 0, 0, 0);
            s.is("row(5, 0)", x.row(5, 0), 0);
            s.holds("ROW 5, empty", x, 5);
            s.is("row(5, 40)", x.row(5, 40), 40);
            s.asked("at(5, 39)", x, x.at(5, 39), 1, 0);
            s.is("ROWS that are there", x.count(7), 2);
        });
        s.test(2, "BAD: also n above 40;", () -> {
            s.bounds("row(., 1)", GlowDebts::new, (x, r) -> x.row(r, 1), 0, 5);
            s.badFor("row(0, .)", rowsOf(2), (x, n) -> x.row(0, n), 41, 42, MAX);
            s.is("row(0, 40)", new GlowDebts().row(0, 40), 40);
            s.badFor("row(., -1)", GlowDebts::new, (x, r) -> x.row(r, -1), -1, 6);
        });
        s.test(2, "SIZE: below 0.", () -> {
            GlowDebts x = Sentences.bankAndRow("l0105", 3, 4);
            s.found("row(0, -1)", x, () -> x.row(0, -1), Sentences.SIZE);
            s.found("row(0, MIN)", x, () -> x.row(0, MIN), Sentences.SIZE);
            s.found("row(5, -1), missing", x, () -> x.row(5, -1), Sentences.SIZE);
            s.holds("ROW 0 behind it", x, 0, 3, 4);
            s.is("row(0, 0)", x.row(0, 0), 0);
        });
    }

    private void lay() {
        s.test(3, "Place i of a ROW is v: what it was, told by asked(): 1.", () -> {
            GlowDebts x = new GlowDebts();
            x.row(0, 40);
            s.asked("lay(0, 0, -9)", x, x.lay(0, 0, -9), 1, 0);
            s.asked("lay(0, 0, MIN)", x, x.lay(0, 0, MIN), 1, -9);
            s.asked("lay(0, 0, MAX)", x, x.lay(0, 0, MAX), 1, MIN);
            s.asked("lay(0, 39, 5)", x, x.lay(0, 39, 5), 1, 0);
            s.asked("at(0, 0)", x, x.at(0, 0), 1, MAX);
            s.asked("at(0, 39)", x, x.at(0, 39), 1, 5);
            s.asked("at(0, 1)", x, x.at(0, 1), 1, 0);
        });
        s.test(3, "BAD;", () -> {
            s.bounds("lay(., 0, 1)", rowsOf(1), (x, r) -> x.lay(r, 0, 1), 0, 5);
            s.badFor("lay(., 9, 1)", rowsOf(1), (x, r) -> x.lay(r, 9, 1), -1, 6);
        });
        s.test(3, "NOTHING;", () -> {
            GlowDebts x = new GlowDebts();
            s.found("lay(0, 0, 1)", x, () -> x.lay(0, 0, 1), Sentences.NOTHING);
            s.found("lay(0, -1, 1)", x, () -> x.lay(0, -1, 1), Sentences.NOTHING);
            x.row(0, 2);
            x.tear(0);
            s.found("lay(0, 0, 1), torn", x, () -> x.lay(0, 0, 1), Sentences.NOTHING);
        });
        s.test(3, "BEYOND.", () -> {
            GlowDebts x = Sentences.bankAndRow("l0105", 3, 4);
            for (int i : new int[] {-1, 2, 39, 40, MIN, MAX}) {
                s.found("lay(0, " + i + ", 1)", x, () -> x.lay(0, i, 1), Sentences.BEYOND);
            }
            x.row(1, 0);
            s.found("lay(1, 0, 1), empty", x, () -> x.lay(1, 0, 1), Sentences.BEYOND);
            x.row(2, 40);
            s.found("lay(2, 40, 1), full", x, () -> x.lay(2, 40, 1), Sentences.BEYOND);
        });
    }

    private void at() {
        s.test(4, "Place i of a ROW, told by asked(): 1.", () -> {
            GlowDebts x = Sentences.bankAndRow("l0105", MIN, -9, MAX);
            s.asked("at(0, 0)", x, x.at(0, 0), 1, MIN);
            s.asked("at(0, 1)", x, x.at(0, 1), 1, -9);
            s.asked("at(0, 2)", x, x.at(0, 2), 1, MAX);
        });
        s.test(4, "BAD;", () -> {
            s.bounds("at(., 0)", rowsOf(1), (x, r) -> x.at(r, 0), 0, 5);
            s.badFor("at(., 9)", rowsOf(1), (x, r) -> x.at(r, 9), -1, 6);
        });
        s.test(4, "NOTHING;", () -> {
            GlowDebts x = new GlowDebts();
            s.found("at(0, 0)", x, () -> x.at(0, 0), Sentences.NOTHING);
            s.found("at(0, -1)", x, () -> x.at(0, -1), Sentences.NOTHING);
            x.row(5, 2);
            x.tear(5);
            s.found("at(5, 0), torn", x, () -> x.at(5, 0), Sentences.NOTHING);
        });
        s.test(4, "BEYOND.", () -> {
            GlowDebts x = Sentences.bankAndRow("l0105", 3, 4);
            for (int i : new int[] {-1, 2, 39, 40, MIN, MAX}) {
                s.found("at(0, " + i + ")", x, () -> x.at(0, i), Sentences.BEYOND);
            }
            x.row(1, 0);
            s.found("at(1, 0), empty", x, () -> x.at(1, 0), Sentences.BEYOND);
            x.row(2, 40);
            s.found("at(2, 40), full", x, () -> x.at(2, 40), Sentences.BEYOND);
        });
    }

    private void tear() {
        s.test(5, "A ROW is missing: 1.", () -> {
            GlowDebts x = rowsOf(2).get();
            x.row(1, 0);
            x.lay(0, 0, 7);
            s.is("tear(0)", x.tear(0), 1);
            s.is("tear(1), empty", x.tear(1), 1);
            s.is("ROWS that are there", x.count(7), 4);
            s.found("at(0, 0)", x, () -> x.at(0, 0), Sentences.NOTHING);
            x.row(0, 2);
            s.holds("ROW 0 once more", x, 0, 0, 0);
        });
        s.test(5, "BAD;", () -> s.bounds("tear(.)", rowsOf(1), (x, r) -> x.tear(r), 0, 5));
        s.test(5, "NOTHING.", () -> {
            GlowDebts x = new GlowDebts();
            s.found("tear(0)", x, () -> x.tear(0), Sentences.NOTHING);
            x.row(0, 0);
            x.tear(0);
            s.found("tear(0), torn", x, () -> x.tear(0), Sentences.NOTHING);
        });
    }

    private static GlowDebts twoRows() {
        GlowDebts x = Sentences.bankAndRow("l0105", 1, 2, 3, 4, 5);
        Due.lay(x, 1, 6, 7, 8);
        return x;
    }

    private void copy() {
        s.test(6, "n places of a ROW, from one on, come to those of another one", () -> {
            GlowDebts x = twoRows();
            s.is("copy(0, 3, 1, 1, 2)", x.copy(0, 3, 1, 1, 2), 1);
            s.holds("ROW 1", x, 1, 6, 4, 5);
            s.holds("ROW 0", x, 0, 1, 2, 3, 4, 5);
            s.is("copy(1, 0, 0, 0, 3), all of it", x.copy(1, 0, 0, 0, 3), 1);
            s.holds("ROW 0", x, 0, 6, 4, 5, 4, 5);
            x.row(4, 40);
            x.lay(4, 39, 9);
            x.row(5, 40);
            s.is("copy(4, 0, 5, 0, 40)", x.copy(4, 0, 5, 0, 40), 1);
            s.asked("at(5, 39)", x, x.at(5, 39), 1, 9);
        });
        s.test(6, "(perhaps itself) from one on,", () -> {
            GlowDebts x = twoRows();
            s.is("copy(0, 0, 0, 3, 2)", x.copy(0, 0, 0, 3, 2), 1);
            s.holds("ROW 0", x, 0, 1, 2, 3, 1, 2);
            s.is("copy(0, 0, 0, 0, 5)", x.copy(0, 0, 0, 0, 5), 1);
            s.holds("ROW 0, to where it was", x, 0, 1, 2, 3, 1, 2);
        });
        s.test(6, "as if taken ahead: 1.", () -> {
            GlowDebts x = twoRows();
            s.is("copy(0, 0, 0, 1, 4)", x.copy(0, 0, 0, 1, 4), 1);
            s.holds("ROW 0, up", x, 0, 1, 1, 2, 3, 4);
            s.is("copy(0, 1, 0, 0, 4)", x.copy(0, 1, 0, 0, 4), 1);
            s.holds("ROW 0, down", x, 0, 1, 2, 3, 4, 4);
        });
        s.test(6, "BAD;", () -> {
            s.bounds("copy(., 0, 1, 0, 1)", rowsOf(1), (x, r) -> x.copy(r, 0, 1, 0, 1), 0, 5);
            s.bounds("copy(1, 0, ., 0, 1)", rowsOf(1), (x, r) -> x.copy(1, 0, r, 0, 1), 0, 5);
            s.bounds("copy(., 0, 1, 0, 0)", rowsOf(1), (x, r) -> x.copy(r, 0, 1, 0, 0), 0, 5);
        });
    }

    private void copyRefused() {
        s.test(6, "SIZE: n below 0;", () -> {
            GlowDebts x = twoRows();
            s.found("copy(0, 1, 1, 1, -1)", x, () -> x.copy(0, 1, 1, 1, -1), Sentences.SIZE);
            s.found("copy(0, 0, 1, 0, MIN)", x, () -> x.copy(0, 0, 1, 0, MIN), Sentences.SIZE);
            s.is("copy(0, 0, 1, 0, 0)", x.copy(0, 0, 1, 0, 0), 1);
        });
        s.test(6, "NOTHING: either;", () -> {
            GlowDebts x = twoRows();
            s.found("copy(2, 0, 1, 0, 1)", x, () -> x.copy(2, 0, 1, 0, 1), Sentences.NOTHING);
            s.found("copy(0, 0, 2, 0, 1)", x, () -> x.copy(0, 0, 2, 0, 1), Sentences.NOTHING);
            s.found("copy(2, 0, 2, 0, 0)", x, () -> x.copy(2, 0, 2, 0, 0), Sentences.NOTHING);
        });
        s.test(6, "BEYOND: not so many there", () -> {
            GlowDebts x = twoRows();
            s.found("copy(0, 0, 1, 0, 4)", x, () -> x.copy(0, 0, 1, 0, 4), Sentences.BEYOND);
            s.found("copy(0, 0, 1, 1, 3)", x, () -> x.copy(0, 0, 1, 1, 3), Sentences.BEYOND);
            s.found("copy(1, 0, 0, 0, 4)", x, () -> x.copy(1, 0, 0, 0, 4), Sentences.BEYOND);
            s.found("copy(0, 4, 1, 0, 2)", x, () -> x.copy(0, 4, 1, 0, 2), Sentences.BEYOND);
            s.found("copy(0, -1, 1, 0, 1)", x, () -> x.copy(0, -1, 1, 0, 1), Sentences.BEYOND);
            s.found("copy(0, 0, 1, -1, 1)", x, () -> x.copy(0, 0, 1, -1, 1), Sentences.BEYOND);
            s.found("copy(0, 1, 0, 0, MAX)", x, () -> x.copy(0, 1, 0, 0, MAX), Sentences.BEYOND);
            s.found("copy(0, MAX, 1, 0, MAX)", x, () -> x.copy(0, MAX, 1, 0, MAX), Sentences.BEYOND);
            s.found("copy(0, MIN, 1, 0, MAX)", x, () -> x.copy(0, MIN, 1, 0, MAX), Sentences.BEYOND);
            s.found("copy(0, 0, 1, MIN, 1)", x, () -> x.copy(0, 0, 1, MIN, 1), Sentences.BEYOND);
            s.holds("ROW 1 behind it", x, 1, 6, 7, 8);
        });
        s.test(6, "(also with n 0, if i, j is below 0, or above its size).", () -> {
            GlowDebts x = twoRows();
            s.found("copy(0, -1, 1, 0, 0)", x, () -> x.copy(0, -1, 1, 0, 0), Sentences.BEYOND);
            s.found("copy(0, 0, 1, -1, 0)", x, () -> x.copy(0, 0, 1, -1, 0), Sentences.BEYOND);
            s.found("copy(0, 6, 1, 0, 0)", x, () -> x.copy(0, 6, 1, 0, 0), Sentences.BEYOND);
            s.found("copy(0, 0, 1, 4, 0)", x, () -> x.copy(0, 0, 1, 4, 0), Sentences.BEYOND);
            s.found("copy(0, MAX, 1, 0, 0)", x, () -> x.copy(0, MAX, 1, 0, 0), Sentences.BEYOND);
            s.found("copy(0, 0, 1, MIN, 0)", x, () -> x.copy(0, 0, 1, MIN, 0), Sentences.BEYOND);
            s.is("copy(0, 5, 1, 3, 0), at its size", x.copy(0, 5, 1, 3, 0), 1);
            x.row(2, 0);
            s.is("copy(2, 0, 2, 0, 0), empty", x.copy(2, 0, 2, 0, 0), 1);
            s.found("copy(2, 1, 2, 0, 0), empty", x, () -> x.copy(2, 1, 2, 0, 0), Sentences.BEYOND);
        });
        s.test(6, "(In this order.)", () -> {
            GlowDebts x = twoRows();
            s.bad("copy(6, -1, 2, -1, -1)", x, () -> x.copy(6, -1, 2, -1, -1));
            s.bad("copy(2, -1, 6, -1, -1)", x, () -> x.copy(2, -1, 6, -1, -1));
            s.found("copy(2, -1, 2, -1, -1)", x, () -> x.copy(2, -1, 2, -1, -1), Sentences.SIZE);
            s.found("copy(0, -1, 1, -1, -1)", x, () -> x.copy(0, -1, 1, -1, -1), Sentences.SIZE);
            s.found("copy(0, -1, 2, -1, 1)", x, () -> x.copy(0, -1, 2, -1, 1), Sentences.NOTHING);
            s.found("copy(2, -1, 0, -1, 1)", x, () -> x.copy(2, -1, 0, -1, 1), Sentences.NOTHING);
        });
    }

    private void mean(int due, int... numbers) {
        GlowDebts x = Sentences.bankAndRow("l0105", numbers);
        s.asked("mean(0) of " + numbers.length, x, x.mean(0), 1, due);
    }

    private void mean() {
        s.test(7, "The mean of a ROW's ints, cut, told by asked(): 1.", () -> {
            mean(7, 7);
            mean(3, 3, 4);
            mean(1, 1, 2, 2);
            mean(-1, -1, -2);
            mean(0, -1, 0, 0);
            mean(0, 0, 1);
            mean(-9, -9);
            mean(MAX, MAX, MAX, MAX);
            mean(MIN, MIN, MIN, MIN);
            mean(0, MIN, MAX);
            int[] many = new int[40];
            java.util.Arrays.fill(many, MAX);
            mean(MAX, many);
            many[39] = MIN;
            // (39 (2^31 - 1) - 2^31) / 40 is 2040109464 and 25 of 40
            mean(2040109464, many);
        });
        s.test(7, "BAD;", () -> s.bounds("mean(.)", rowsOf(1), (x, r) -> x.mean(r), 0, 5));
        s.test(7, "NOTHING;", () -> {
            GlowDebts x = new GlowDebts();
            s.found("mean(0)", x, () -> x.mean(0), Sentences.NOTHING);
            x.row(0, 1);
            x.tear(0);
            s.found("mean(0), torn", x, () -> x.mean(0), Sentences.NOTHING);
        });
        s.test(7, "NOUGHT.", () -> {
            GlowDebts x = new GlowDebts();
            x.row(0, 0);
            s.found("mean(0), empty", x, () -> x.mean(0), Sentences.NOUGHT);
            x.row(0, 1);
            s.asked("mean(0) of one", x, x.mean(0), 1, 0);
        });
    }

    private void text() {
        s.test(8, "A TEXT is there with n blanks: n.", () -> {
            GlowDebts x = new GlowDebts();
            s.is("text(0, 2)", x.text(0, 2), 2);
            s.is("put(0, 0, 108)", x.put(0, 0, 108), 1032);
            s.is("put(0, 1, 108)", x.put(0, 1, 108), 1032);
            s.is("text(0, 2), anew", x.text(0, 2), 2);
            s.is("put(0, 1, 7) anew", x.put(0, 1, 7), 1032);
            s.is("text(0, 0)", x.text(0, 0), 0);
            s.is("fault(0), empty", x.fault(0), 0);
            s.is("text(3, 60)", x.text(3, 60), 60);
            s.is("put(3, 59, 7)", x.put(3, 59, 7), 1032);
            s.is("TEXTS that are there", x.count(8), 2);
        });
        s.test(8, "BAD: also n above 60;", () -> {
            s.bounds("text(., 1)", GlowDebts::new, (x, t) -> x.text(t, 1), 0, 3);
            s.badFor("text(0, .)", textsOf("l0105"), (x, n) -> x.text(0, n), 61, 62, MAX);
            s.is("text(0, 60)", new GlowDebts().text(0, 60), 60);
            s.is("text(0, 41)", new GlowDebts().text(0, 41), 41);
            s.badFor("text(., -1)", GlowDebts::new, (x, t) -> x.text(t, -1), -1, 4);
        });
        s.test(8, "SIZE: below 0.", () -> {
            GlowDebts x = textsOf("l0105").get();
            s.found("text(0, -1)", x, () -> x.text(0, -1), Sentences.SIZE);
            s.found("text(0, MIN)", x, () -> x.text(0, MIN), Sentences.SIZE);
            s.is("bank(0) behind it", x.bank(0), 1);
            s.is("text(0, 0)", x.text(0, 0), 0);
        });
    }

    private void put() {
        s.test(9, "Byte i of a TEXT is v, cut to a byte (-128 .. 127): what it was, and 1000 more.", () -> {
            GlowDebts x = new GlowDebts();
            x.text(0, 60);
            int[] laid = {127, -128, 128, -129, 255, 256, -1, 1000, 511, MAX, MIN, 0};
            int[] cut = {127, -128, -128, 127, -1, 0, -1, -24, -1, -1, 0, 0};
            int before = 32;
            for (int i = 0; i < laid.length; i++) {
                s.is("put(0, 0, " + laid[i] + ")", x.put(0, 0, laid[i]), 1000 + before);
                before = cut[i];
            }
            s.is("put(0, 0, 1)", x.put(0, 0, 1), 1000 + before);
            s.is("put(0, 59, 1)", x.put(0, 59, 1), 1032);
            s.is("put(0, 58, 1), beside it", x.put(0, 58, 1), 1032);
        });
        s.test(9, "BAD;", () -> {
            s.bounds("put(., 0, 1)", textsOf("l0105"), (x, t) -> x.put(t, 0, 1), 0, 3);
            s.badFor("put(., 9, 1)", textsOf("l0105"), (x, t) -> x.put(t, 9, 1), -1, 4);
        });
        s.test(9, "NOTHING;", () -> {
            GlowDebts x = new GlowDebts();
            s.found("put(0, 0, 1)", x, () -> x.put(0, 0, 1), Sentences.NOTHING);
            s.found("put(3, -1, 1)", x, () -> x.put(3, -1, 1), Sentences.NOTHING);
        });
        s.test(9, "BEYOND.", () -> {
            GlowDebts x = textsOf("l0105").get();
            for (int i : new int[] {-1, 5, 59, 60, MIN, MAX}) {
                s.found("put(0, " + i + ", 1)", x, () -> x.put(0, i, 1), Sentences.BEYOND);
            }
            x.text(1, 0);
            s.found("put(1, 0, 1), empty", x, () -> x.put(1, 0, 1), Sentences.BEYOND);
            x.text(1, 60);
            s.found("put(1, 60, 1), full", x, () -> x.put(1, 60, 1), Sentences.BEYOND);
        });
    }

    private void fault() {
        s.test(10, "A FAULT of a TEXT;", () -> {
            s.is("the first byte", textsOf("x").get().fault(3), 0);
            s.is("the last byte", textsOf("l0105 d010x").get().fault(3), 10);
            s.is("behind the last byte", textsOf("l0105 d010").get().fault(3), 10);
            s.is("nothing at all", textsOf("").get().fault(3), 0);
        });
        s.test(10, "NONE: there is none.", () -> {
            GlowDebts x = textsOf("l0105 d0105").get();
            s.refused("fault(0)", x, () -> x.fault(0), Sentences.NONE, 0);
        });
        s.test(10, "BAD;", () -> s.bounds("fault(.)", textsOf("l0105"), (x, t) -> x.fault(t), 0, 3));
        s.test(10, "NOTHING.", () -> {
            GlowDebts x = new GlowDebts();
            s.found("fault(0)", x, () -> x.fault(0), Sentences.NOTHING);
            s.found("fault(3)", x, () -> x.fault(3), Sentences.NOTHING);
        });
    }

    /** A NIGHT, a LIGHT answered, one carried, a BANK kept. */
    private static GlowDebts used() {
        GlowDebts x = Due.bank("l0105 d0105");
        x.night();
        x.answer(1);
        x.carry(0, 3);
        x.keep(0);
        x.keep(2);
        return x;
    }

    private void bank() {
        s.test(11, "A BANK by a TEXT", () -> {
            GlowDebts x = Due.bank("l0123 m5498");
            int[][] parts = {{0, 0, 1, 2, 3, 1, 3}, {5, 5, 4, 9, 8, 1, 5}};
            for (int k = 0; k < 2; k++) {
                for (int what = 0; what <= 6; what++) {
                    s.asked("light(" + k + ", " + what + ")", x, x.light(k, what), 1, parts[k][what]);
                }
            }
            s.is("the TEXT is still there", x.bank(0), 2);
        });
        s.test(11, "(anew: NIGHT 0, all lit, no DEEDS;", () -> {
            GlowDebts x = used();
            x.bank(0);
            s.is("the NIGHT", x.count(1), 0);
            s.is("lit", x.count(3), 3);
            s.is("DEEDS", x.count(2), 0);
            s.asked("the PLACE of LIGHT 0", x, x.light(0, 3), 1, 0);
            s.bad("undo(1)", x, () -> x.undo(1));
            Due.write(x, 0, "l0105");
            x.bank(0);
            s.is("lit of one", x.count(3), 1);
            s.bad("light(1, 0)", x, () -> x.light(1, 0));
        });
        s.test(11, "kept BANKS go):", () -> {
            GlowDebts x = used();
            s.is("kept BANKS", x.count(9), 2);
            x.bank(0);
            s.is("kept BANKS behind bank(0)", x.count(9), 0);
            s.found("on(0)", x, () -> x.on(0), Sentences.NOTHING);
            s.found("on(2)", x, () -> x.on(2), Sentences.NOTHING);
        });
        s.test(11, "how many LIGHTS.", () -> {
            s.is("one", textsOf("l0105").get().bank(0), 1);
            s.is("eight", textsOf("l0105l0105l0105l0105l0105l0105l0105l0105").get().bank(3), 8);
        });
        s.test(11, "BAD;", () -> s.bounds("bank(.)", textsOf("l0105"), (x, t) -> x.bank(t), 0, 3));
        s.test(11, "NOTHING;", () -> {
            GlowDebts x = used();
            s.found("bank(1)", x, () -> x.bank(1), Sentences.NOTHING);
            s.is("kept BANKS behind it", x.count(9), 2);
        });
        s.test(11, "STATE: a FAULT.", () -> {
            GlowDebts x = used();
            for (String words : new String[] {"", "   ", "l", "l0005", "l0105 x"}) {
                Due.write(x, 1, words);
                s.refused("bank(1) of '" + words + "'", x, () -> x.bank(1), Sentences.STATE, 0);
            }
            s.is("on(2) behind it", x.on(2), 3);
        });
        s.test(11, "(STATE behind NOTHING.)", () -> {
            GlowDebts x = new GlowDebts();
            s.found("bank(0), missing", x, () -> x.bank(0), Sentences.NOTHING);
            x.text(0, 3);
            s.refused("bank(0), a FAULT", x, () -> x.bank(0), Sentences.STATE, 0);
        });
    }

    private void light() {
        s.test(12, "Of a LIGHT: 0 the KIND, 1 who OWES, 2 to whom, 3 the PLACE, 4 how BRIGHT at first, 5 whether it is lit (1, 0),"
                + " 6 how it GLOWS (lit or not), all told by asked(): 1.", () -> {
            GlowDebts x = Due.bank("l0105 o2349");
            int[] parts = {4, 2, 3, 4, 9, 1, 9};
            for (int what = 0; what <= 6; what++) {
                s.asked("light(1, " + what + ")", x, x.light(1, what), 1, parts[what]);
            }
            x.carry(1, 0);
            x.answer(1);
            x.night();
            int[] then = {4, 2, 3, 0, 9, 0, 10};
            for (int what = 0; what <= 6; what++) {
                s.asked("light(1, " + what + "), then", x, x.light(1, what), 1, then[what]);
            }
        });
        s.test(12, "BAD.", () -> {
            s.bounds("light(., 0)", () -> Due.bank("l0105 l0105 l0105"), (x, k) -> x.light(k, 0), 0, 2);
            s.bounds("light(0, .)", () -> Due.bank("l0105"), (x, what) -> x.light(0, what), 0, 6);
        });
    }

    private void mark(String words, int kind, int... nightsAndMarks) {
        for (int i = 0; i + 1 < nightsAndMarks.length; i += 2) {
            GlowDebts x = Sentences.nights(Due.bank(words), nightsAndMarks[i]);
            String what = "mark(0, " + kind + ") of '" + words + "' in NIGHT " + nightsAndMarks[i];
            s.is(what, x.mark(0, kind), nightsAndMarks[i + 1]);
        }
    }

    private void mark() {
        s.test(13, "What a LIGHT that IS of a KIND tells of this NIGHT:", () -> {
            mark("d0105", 2, 0, 100, 1, 101, 40, 115);
            GlowDebts x = Sentences.nights(Due.bank("d0105"), 3);
            x.answer(0);
            s.is("mark(0, 2), answered", x.mark(0, 2), 103);
            x.undo(0);
            s.is("mark(0, 2), undone", x.mark(0, 2), 100);
        });
        s.test(13, "a JAR how much less it GLOWS than a LIGHT alike,", () -> {
            int[] less = {0, 0, 1, 1, 2, 2, 3, 3, 4, 4};
            for (int first = 0; first <= 9; first++) {
                mark("j010" + first, 1, 0, less[first], 40, less[first]);
            }
        });
        s.test(13, "a DEW one (OLD, too) how much more than a LIGHT alike, and 100 (below that, if less),", () -> {
            mark("d0109", 2, 0, 100, 11, 111, 12, 111);
            mark("d0100", 2, 20, 120, 21, 120);
            mark("o0109", 2, 4, 104, 5, 98, 8, 99, 9, 100, 40, 101);
            mark("o0100", 2, 5, 102, 40, 110);
        });
        s.test(13, "a FORGED one (a LAMP, too) how much a LIGHT alike GLOWS more, and 100 (below that, if less),", () -> {
            mark("f0109", 3, 0, 109, 1, 108);
            mark("f0100", 3, 0, 91, 1, 90);
            mark("f0105", 3, 0, 101, 1, 100);
            mark("m0109", 3, 0, 104, 1, 104);
            mark("m0100", 3, 0, 91, 1, 90);
        });
        s.test(13, "an OLD one how much less than a DEW one alike,", () -> {
            mark("o0109", 4, 0, 0, 4, 0, 5, 7, 6, 8, 40, 10);
            mark("o0100", 4, 5, 3, 6, 3);
        });
        s.test(13, "a LAMP how much more than a FORGED one alike.", () -> {
            mark("m0109", 5, 0, 5, 1, 4);
            mark("m0105", 5, 0, 1, 1, 0);
            mark("m0104", 5, 0, 0, 1, 0);
            mark("m0100", 5, 0, 0);
        });
        s.test(13, "BAD: also KIND 0;", () -> {
            s.bounds("mark(0, .)", () -> Due.bank("l0105"), (x, kind) -> x.mark(0, kind), 1, 5);
            s.bounds("mark(., 1)", () -> Due.bank("l0105 j0105"), (x, k) -> x.mark(k, 1), 0, 1);
            GlowDebts x = Due.bank("l0105");
            s.bad("mark(0, 0), though it IS of it", x, () -> x.mark(0, 0));
            s.bad("mark(1, 1)", x, () -> x.mark(1, 1));
        });
        s.test(13, "UNLIKE.", () -> {
            GlowDebts x = Due.bank("l0105 j0105 d0105 f0105 o0105 m0105");
            int[][] unlike = {{0, 1}, {0, 5}, {1, 2}, {2, 1}, {2, 4}, {2, 3}, {3, 5}, {3, 2}, {4, 3}, {4, 5},
                {5, 4}, {5, 2}, {5, 1}};
            for (int[] one : unlike) {
                s.found("mark(" + one[0] + ", " + one[1] + ")", x, () -> x.mark(one[0], one[1]), Sentences.UNLIKE);
            }
        });
    }

    private void glows() {
        s.test(14, "How a LIGHT GLOWS in a NIGHT (0 .. 99).", () -> {
            GlowDebts x = Due.bank("d0105 f0100");
            x.night();
            x.night();
            x.answer(0);
            s.is("glows(0, 0), counted from NIGHT 0", x.glows(0, 0), 5);
            s.is("glows(0, 1)", x.glows(0, 1), 6);
            s.is("glows(0, 99)", x.glows(0, 99), 20);
            s.is("glows(1, 98)", x.glows(1, 98), 9);
            s.is("glows(1, 99)", x.glows(1, 99), 10);
        });
        s.test(14, "BAD.", () -> {
            s.bounds("glows(0, .)", () -> Due.bank("l0105"), (x, night) -> x.glows(0, night), 0, 99);
            s.bounds("glows(., 0)", () -> Due.bank("l0105 l0105"), (x, k) -> x.glows(k, 0), 0, 1);
        });
    }
}
