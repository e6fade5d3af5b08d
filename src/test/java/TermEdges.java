/** What the document says ahead of promise 1, which binds all promises. */
final class TermEdges {
    private final Sentences s;

    TermEdges(Sentences s) {
        this.s = s;
    }

    void all() {
        life();
        refusals();
        changesNothing();
        findings();
        told();
        sizes();
        language();
        faults();
        kinds();
        glows();
        nights();
        rings();
        deeds();
        aside();
    }

    private void life() {
        s.test(0, "An object is used for at most 512 calls after it has been made", () -> {
            GlowDebts x = Due.bank("d0105");
            // 1 + 5 + 1 calls make the bank
            for (int call = 8; call < 512; call++) {
                s.is("night() or undo(), call " + call, call % 2 == 0 ? x.night() : x.undo(0), call % 2 == 0 ? 6 : 1);
            }
            s.is("night(), call 512", x.night(), 6);
        });
    }

    private void refusals() {
        s.test(0, "Refused is, the first of these that fits, in this order: BAD -1 (a number that is none, or not as told),",
                () -> {
            GlowDebts x = new GlowDebts();
            s.is("BAD", GlowDebts.BAD, -1);
            s.bad("keep(3), no LIGHTS", x, () -> x.keep(3));
            s.bad("dark(11), no LIGHTS", x, () -> x.dark(11));
            s.bad("row(6, -1)", x, () -> x.row(6, -1));
            s.bad("text(4, -1)", x, () -> x.text(4, -1));
            s.bad("copy(0, 0, 6, 0, -1)", x, () -> x.copy(0, 0, 6, 0, -1));
            s.bad("firsts(0, 0) without LIGHT 0 or ROW 0", x, () -> x.firsts(0, 0));
            s.bad("whose(0, 0) without LIGHT 0 or ROW 0", x, () -> x.whose(0, 0));
            s.bad("chain(6, 6, 0)", x, () -> x.chain(6, 6, 0));
            s.bad("on(3), nothing kept", x, () -> x.on(3));
            GlowDebts full = Sentences.nights(Due.bank("d0105"), 40);
            s.bad("carry(0, 10) when full", full, () -> full.carry(0, 10));
            s.bad("lots(0, 1) when full", full, () -> full.lots(0, 1));
            s.bad("answer(1) when full", full, () -> full.answer(1));
        });
        s.test(0, "FULL -2", () -> {
            GlowDebts x = Sentences.nights(Due.bank("d0105"), 40);
            s.is("FULL", GlowDebts.FULL, -2);
            s.refused("answer(0)", x, () -> x.answer(0), -2, 0);
        });
        s.test(0, "STATE -4 (not now)", () -> {
            GlowDebts x = Due.bank("d0105");
            s.is("STATE", GlowDebts.STATE, -4);
            s.refused("relight(0), lit", x, () -> x.relight(0), -4, 0);
            x.answer(0);
            s.is("relight(0) now", x.relight(0), 5);
        });
        s.test(0, "SPENT -6 (more than told)", () -> s.is("SPENT", GlowDebts.SPENT, -6));
        s.test(0, "FINDING -3 (finding() tells which)", () -> {
            GlowDebts x = new GlowDebts();
            s.is("FINDING", GlowDebts.FINDING, -3);
            s.is("tear(0), missing", x.tear(0), -3);
            s.is("finding()", x.finding(), 1);
            s.is("row(0, -1)", x.row(0, -1), -3);
            s.is("finding()", x.finding(), 5);
        });
        s.test(0, "unless a call says so otherwise", () -> {
            GlowDebts x = Sentences.nights(Due.bank("d0105"), 40);
            s.refused("night() in NIGHT 40 with 40 DEEDS", x, x::night, Sentences.STATE, 0);
            s.refused("relight(0), lit, with 40 DEEDS", x, () -> x.relight(0), Sentences.STATE, 0);
            s.found("bank(3), missing", x, () -> x.bank(3), Sentences.NOTHING);
        });
        s.test(0, "NONE -9 (a ROW that something was to come to stays as it is then)", () -> {
            GlowDebts x = Sentences.bankAndRow("l0105", 7, 8);
            s.is("NONE", GlowDebts.NONE, -9);
            s.refused("chain(1, 0, 0)", x, () -> x.chain(1, 0, 0), -9, 0);
            s.holds("ROW 0", x, 0, 7, 8);
            s.refused("chain(1, 0, 5), a missing ROW", x, () -> x.chain(1, 0, 5), -9, 0);
            s.found("tear(5)", x, () -> x.tear(5), Sentences.NOTHING);
        });
    }

    /** An object in which there is something of all that a refused call could change. */
    private static GlowDebts rich() {
        GlowDebts x = Due.bank("d0105 j1244 f2038");
        x.night();
        x.keep(1);
        x.answer(2);
        Due.lay(x, 0, 9, 8, 7);
        Due.lay(x, 1, 100, 6);
        x.row(2, 0);
        x.text(3, 4);
        x.odds(0, 0, 5);
        x.at(0, 1);
        return x;
    }

    private void changesNothing() {
        s.test(0, "What is refused changes nothing but finding(), findings().", () -> {
            // Due.refused() looks at all that is told; what is kept, and DEEDS, show behind on(), undo()
            GlowDebts x = rich();
            s.bad("row(0, 41)", x, () -> x.row(0, 41));
            s.found("row(0, -1)", x, () -> x.row(0, -1), Sentences.SIZE);
            s.found("lay(0, 3, 1)", x, () -> x.lay(0, 3, 1), Sentences.BEYOND);
            s.found("copy(0, 0, 0, 2, 2)", x, () -> x.copy(0, 0, 0, 2, 2), Sentences.BEYOND);
            s.found("mean(2)", x, () -> x.mean(2), Sentences.NOUGHT);
            s.bad("text(3, 61)", x, () -> x.text(3, 61));
            s.found("text(3, -1)", x, () -> x.text(3, -1), Sentences.SIZE);
            s.found("put(3, 4, 1)", x, () -> x.put(3, 4, 1), Sentences.BEYOND);
            s.refused("bank(3), blanks alone", x, () -> x.bank(3), Sentences.STATE, 0);
            s.found("bank(1)", x, () -> x.bank(1), Sentences.NOTHING);
            s.found("mark(0, 1)", x, () -> x.mark(0, 1), Sentences.UNLIKE);
            s.bad("light(0, 7)", x, () -> x.light(0, 7));
            s.refused("answer(2)", x, () -> x.answer(2), Sentences.STATE, 0);
            s.refused("relight(0)", x, () -> x.relight(0), Sentences.STATE, 0);
            s.refused("carry(0, 0)", x, () -> x.carry(0, 0), Sentences.STATE, 0);
            s.bad("undo(3)", x, () -> x.undo(3));
        });
        s.test(0, "What is refused changes nothing but finding(), findings().", () -> {
            GlowDebts x = rich();
            s.bad("keep(3)", x, () -> x.keep(3));
            s.found("on(0)", x, () -> x.on(0), Sentences.NOTHING);
            s.refused("when(0, 200)", x, () -> x.when(0, 200), Sentences.NONE, 0);
            s.bad("stow(0, 9, 0)", x, () -> x.stow(0, 9, 0));
            s.bad("dark(11)", x, () -> x.dark(11));
            s.refused("least(0)", x, () -> x.least(0), Sentences.NONE, 0);
            s.refused("chain(1, 0, 0)", x, () -> x.chain(1, 0, 0), Sentences.NONE, 0);
            s.bad("dim(0, 100)", x, () -> x.dim(0, 100));
            s.found("firsts(0, 0)", x, () -> x.firsts(0, 0), Sentences.SIZE);
            s.found("test(0, 1)", x, () -> x.test(0, 1), Sentences.UNLIKE);
            s.bad("odds(0, 0, 13)", x, () -> x.odds(0, 0, 13));
            s.bad("mid(0, 13)", x, () -> x.mid(0, 13));
            s.bad("lots(21, 1)", x, () -> x.lots(21, 1));
            s.is("undo(0)", x.undo(0), 2);
            s.is("on(1)", x.on(1), 1);
            s.is("the NIGHT that was kept", x.count(1), 1);
            s.is("lit when kept", x.count(3), 7);
        });
    }

    private void findings() {
        s.test(0, "1 NOTHING (a ROW, a TEXT, a kept BANK that is missing)", () -> {
            GlowDebts x = Due.bank("l0105");
            s.found("tear(0)", x, () -> x.tear(0), 1);
            s.found("fault(1)", x, () -> x.fault(1), 1);
            s.found("on(0)", x, () -> x.on(0), 1);
        });
        s.test(0, "2 BEYOND (a place that there is not)", () -> {
            GlowDebts x = Sentences.bankAndRow("l0105", 1);
            s.found("at(0, 1)", x, () -> x.at(0, 1), 2);
            s.found("put(0, 5, 0)", x, () -> x.put(0, 5, 0), 2);
            s.found("copy(0, 0, 0, 1, 1)", x, () -> x.copy(0, 0, 0, 1, 1), 2);
        });
        s.test(0, "3 UNLIKE (a LIGHT of another KIND; a number that is none)", () -> {
            GlowDebts x = Sentences.bankAndRow("l0105", 0, 100);
            s.found("mark(0, 1)", x, () -> x.mark(0, 1), 3);
            s.found("kinds(0, 0)", x, () -> x.kinds(0, 0), 3);
        });
        s.test(0, "4 NOUGHT (shared among none)", () -> {
            GlowDebts x = Sentences.bankAndRow("l0105");
            s.found("mean(0)", x, () -> x.mean(0), 4);
        });
        s.test(0, "5 SIZE (fewer than none; not as many as due)", () -> {
            GlowDebts x = Sentences.bankAndRow("l0105", 1, 2, 3);
            s.found("row(0, -1)", x, () -> x.row(0, -1), 5);
            s.found("firsts(0, 0)", x, () -> x.firsts(0, 0), 5);
            s.found("whose(0, 0)", x, () -> x.whose(0, 0), 5);
        });
    }

    private void told() {
        s.test(0, "Chances, means are told by upper(), lower(), in lowest terms", () -> {
            GlowDebts x = Due.bank("l0106 l0103");
            s.chance("odds(0, 0, 4)", x, x.odds(0, 0, 4), 1, 9);
            s.chance("odds(0, 3, 9)", x, x.odds(0, 3, 9), 3, 4);
            s.chance("mid(0, 4)", x, x.mid(0, 4), 6, 1);
            s.chance("mid(0, 1)", x, x.mid(0, 1), 33, 4);
        });
        s.test(0, "the lower number above 0 (0 by 1).", () -> {
            GlowDebts x = Due.bank("l0106 l0103");
            s.chance("odds(0, 8, 0)", x, x.odds(0, 8, 0), 0, 1);
            s.chance("mid(0, 12)", x, x.mid(0, 12), 0, 1);
            s.chance("mid(9, 5)", x, x.mid(9, 5), 0, 1);
        });
        s.test(0, "Sets (of LIGHTS, people, KINDS) are told by bits.", () -> {
            GlowDebts x = Sentences.bankAndRow("l0505 l0105 l0105 l0105 l0105 l0105 l0105 l5005");
            s.is("LIGHTS that are lit", x.count(3), 255);
            s.asked("ring() of LIGHTS 0, 7", x, x.ring(), 2, 129);
            s.is("KINDS by nothing", x.kinds(0, 0), 63);
            Due.lay(x, 0, -9, -9, -9, -9, -9, -9);
            s.is("PEOPLE by nothing, but not PERSON 0", x.whose(7, 0), 62);
        });
    }

    private void sizes() {
        s.test(0, "ROWS 0 .. 5 are rows of 0 to 40 ints,", () -> {
            s.bounds("row(., 0)", GlowDebts::new, (x, r) -> x.row(r, 0), 0, 5);
            GlowDebts x = new GlowDebts();
            s.is("row(5, 40)", x.row(5, 40), 40);
            s.bad("row(5, 41)", x, () -> x.row(5, 41));
            s.is("row(0, 0)", x.row(0, 0), 0);
            x.lay(5, 39, Integer.MIN_VALUE);
            s.asked("an int, the least", x, x.lay(5, 39, Integer.MAX_VALUE), 1, Integer.MIN_VALUE);
            s.asked("an int, the greatest", x, x.at(5, 39), 1, Integer.MAX_VALUE);
        });
        s.test(0, "TEXTS 0 .. 3 rows of 0 to 60 bytes,", () -> {
            s.bounds("text(., 0)", GlowDebts::new, (x, t) -> x.text(t, 0), 0, 3);
            GlowDebts x = new GlowDebts();
            s.is("text(3, 60)", x.text(3, 60), 60);
            s.is("put(3, 59, 1)", x.put(3, 59, 1), 1032);
            s.bad("text(3, 61)", x, () -> x.text(3, 61));
            s.is("text(0, 0)", x.text(0, 0), 0);
        });
        s.test(0, "or missing (at first).", () -> {
            GlowDebts x = new GlowDebts();
            for (int r = 0; r < 6; r++) {
                int row = r;
                s.found("at(" + r + ", 0)", x, () -> x.at(row, 0), Sentences.NOTHING);
            }
            for (int t = 0; t < 4; t++) {
                int text = t;
                s.found("put(" + t + ", 0, 0)", x, () -> x.put(text, 0, 0), Sentences.NOTHING);
            }
        });
        s.test(0, "PEOPLE are 0 .. 5,", () -> {
            s.bounds("owes(.)", () -> Due.bank("l0505"), (x, one) -> x.owes(one), 0, 5);
            GlowDebts x = Due.bank("l0505 l5105");
            s.is("chain(0, 1, 0)", x.chain(0, 1, 0), 2);
            s.is("owes(5)", x.owes(5), 100);
        });
        s.test(0, "PLACES along the bank 0 .. 9.", () -> {
            s.bounds("bright(.)", () -> Due.bank("l0105"), (x, place) -> x.bright(place), 0, 9);
            GlowDebts x = Due.bank("l0105 l0197");
            s.is("bright(0)", x.bright(0), 5);
            s.is("bright(9)", x.bright(9), 7);
        });
    }

    /** A BANK by words, so many LIGHTS, without a FAULT. */
    private void well(String words, int lights) {
        GlowDebts x = new GlowDebts();
        Due.write(x, 0, words);
        s.is("fault of '" + words + "'", x.fault(0), Sentences.NONE);
        s.is("bank of '" + words + "'", x.bank(0), lights);
    }

    private void faulty(String words, int place) {
        GlowDebts x = new GlowDebts();
        Due.write(x, 0, words);
        s.is("fault of '" + words + "'", x.fault(0), place);
        s.refused("bank of '" + words + "'", x, () -> x.bank(0), Sentences.STATE, 0);
    }

    private void part(GlowDebts x, int k, int what, int due) {
        s.asked("light(" + k + ", " + what + ")", x, x.light(k, what), 1, due);
    }

    private void language() {
        s.test(0, "A BANK (without LIGHTS at first) is a TEXT:", () -> {
            GlowDebts x = new GlowDebts();
            s.is("LIGHTS at first", x.count(0), 0);
            s.bad("light(0, 0) at first", x, () -> x.light(0, 0));
            Due.write(x, 0, "l0105");
            s.is("LIGHTS with a TEXT alone", x.count(0), 0);
            s.is("bank(0)", x.bank(0), 1);
            x.put(0, 4, '9');
            part(x, 0, 4, 5);
        });
        s.test(0, "blanks (32) ahead, between, behind as many as wanted,", () -> {
            well("l0105d1206", 2);
            well(" l0105 d1206 ", 2);
            well("     l0105      d1206     ", 2);
            well("l0105d1206                                                  ", 2);
            faulty("\tl0105", 0);
            faulty("l0105\nd1206", 5);
            faulty("l0105_", 5);
        });
        s.test(0, "none within items:", () -> {
            faulty("l 0105", 1);
            faulty("l0 105", 2);
            faulty("l01 05", 3);
            faulty("l010 5", 4);
        });
        s.test(0, "LIGHTS (1 to 8;", () -> {
            faulty("", 0);
            well("l0105", 1);
            well("l0105l0105l0105l0105l0105l0105l0105l0105", 8);
            well("  l0105  l0105  l0105  l0105  l0105  l0105  l0105  l0105    ", 8);
            faulty("l0105l0105l0105l0105l0105l0105l0105l0105l0105", 40);
        });
        s.test(0, "0, 1, .. as they come),", () -> {
            GlowDebts x = Due.bank("l0101 l0102l0103   l0104 l0105 l0106 l0107 l0108");
            for (int k = 0; k < 8; k++) {
                part(x, k, 4, k + 1);
            }
        });
        s.test(0, "each a letter, who OWES (0 .. 5),", () -> {
            GlowDebts x = Due.bank("l0106 m5107");
            part(x, 0, 1, 0);
            part(x, 1, 1, 5);
            faulty("l6106", 1);
            faulty("l/106", 1);
            faulty("00106", 0);
        });
        s.test(0, "to whom (0 .. 5, another one),", () -> {
            GlowDebts x = Due.bank("l1006 l1507");
            part(x, 0, 2, 0);
            part(x, 1, 2, 5);
            faulty("l1606", 2);
            faulty("l1/06", 2);
            faulty("l1106", 2);
            faulty("l0006", 2);
            faulty("l5506", 2);
        });
        s.test(0, "the PLACE (0 .. 9),", () -> {
            GlowDebts x = Due.bank("l0106 l0197");
            part(x, 0, 3, 0);
            part(x, 1, 3, 9);
            faulty("l01:7", 3);
            faulty("l01/7", 3);
        });
        s.test(0, "how BRIGHT at first (0 .. 9), one figure each.", () -> {
            GlowDebts x = Due.bank("l0110 l0119");
            part(x, 0, 4, 0);
            part(x, 1, 4, 9);
            faulty("l011:", 4);
            faulty("l011/", 4);
            faulty("l01199", 5);
            faulty("l00199", 2);
        });
    }

    private void faults() {
        s.test(0, "A FAULT is the first place at which it can't go on so", () -> {
            faulty("l0105 x0105 y", 6);
            faulty("l9905", 1);
            faulty("l01xx l0x05", 3);
        });
        s.test(0, "(a letter, a figure that is none such,", () -> {
            faulty("k0105", 0);
            faulty("L0105", 0);
            faulty("l0105a0105", 5);
            faulty("ll105", 1);
            faulty("l01a5", 3);
            faulty("l0105 l01", 9);
            GlowDebts x = new GlowDebts();
            Due.write(x, 0, "l0105");
            x.put(0, 0, 108 + 128);
            s.is("fault of a byte below 0", x.fault(0), 0);
            x.put(0, 0, 108 + 256);
            s.is("fault of a byte that is the letter when cut", x.fault(0), Sentences.NONE);
            x.put(0, 4, 48 - 256);
            s.is("fault of a byte that is the figure when cut", x.fault(0), Sentences.NONE);
            x.put(0, 4, -48);
            s.is("fault of a byte that is no figure", x.fault(0), 4);
        });
        s.test(0, "a ninth LIGHT: its place;", () -> {
            String eight = "l0105l0105l0105l0105l0105l0105l0105l0105";
            faulty(eight + "l0105", 40);
            faulty(eight + "   l0105", 43);
            faulty(" " + eight + "  m", 43);
            well(eight + "                    ", 8);
        });
        s.test(0, "the TEXT's size, if its end comes too early,", () -> {
            faulty("l", 1);
            faulty("l0", 2);
            faulty("l01", 3);
            faulty("l010", 4);
            faulty("  l0105 d01", 11);
            GlowDebts x = new GlowDebts();
            x.text(0, 60);
            x.put(0, 59, 'l');
            s.is("fault of a letter at the end of 60", x.fault(0), 60);
        });
        s.test(0, "or there are blanks alone).", () -> {
            faulty("", 0);
            faulty(" ", 1);
            faulty("                                                            ", 60);
        });
    }

    private void kind(String words, int kind, int... kinds) {
        GlowDebts x = Due.bank(words);
        part(x, 0, 0, kind);
        for (int of = 1; of <= 5; of++) {
            boolean is = kinds.length > 0 && (of == kinds[0] || of == kinds[kinds.length - 1]);
            s.is("'" + words + "' is of KIND " + of, x.mark(0, of) != Sentences.FINDING ? 1 : 0, is ? 1 : 0);
        }
    }

    private void kinds() {
        s.test(0, "0 LIGHT (l, 108),", () -> {
            s.is("l", 'l', 108);
            kind("l0105", 0);
        });
        s.test(0, "1 JAR (j, 106; a LIGHT),", () -> {
            s.is("j", 'j', 106);
            kind("j0105", 1, 1);
        });
        s.test(0, "2 DEW (d, 100; a LIGHT),", () -> {
            s.is("d", 'd', 100);
            kind("d0105", 2, 2);
        });
        s.test(0, "3 FORGED (f, 102; a LIGHT),", () -> {
            s.is("f", 'f', 102);
            kind("f0105", 3, 3);
        });
        s.test(0, "4 OLD (o, 111; a DEW one),", () -> {
            s.is("o", 'o', 111);
            kind("o0105", 4, 4, 2);
        });
        s.test(0, "5 LAMP (m, 109; a FORGED one).", () -> {
            s.is("m", 'm', 109);
            kind("m0105", 5, 5, 3);
        });
    }

    /** How a LIGHT glows in each of some NIGHTS: NIGHT, glow, NIGHT, glow. */
    private void glow(String words, int... nightsAndGlows) {
        GlowDebts x = Due.bank(words);
        for (int i = 0; i + 1 < nightsAndGlows.length; i += 2) {
            int night = nightsAndGlows[i];
            s.is("'" + words + "' in NIGHT " + night, x.glows(0, night), nightsAndGlows[i + 1]);
        }
    }

    private void glows() {
        s.test(0, "In NIGHT n a LIGHT GLOWS as BRIGHT as it is at first;", () -> {
            glow("l0100", 0, 0, 1, 0, 99, 0);
            glow("l0109", 0, 9, 1, 9, 5, 9, 20, 9, 99, 9);
        });
        s.test(0, "a JAR half (cut up) of that;", () -> {
            int[] halves = {0, 1, 1, 2, 2, 3, 3, 4, 4, 5};
            for (int first = 0; first <= 9; first++) {
                glow("j010" + first, 0, halves[first], 1, halves[first], 99, halves[first]);
            }
        });
        s.test(0, "a DEW one 1 more for each NIGHT, 20 at most;", () -> {
            glow("d0100", 0, 0, 1, 1, 19, 19, 20, 20, 21, 20, 99, 20);
            glow("d0109", 0, 9, 10, 19, 11, 20, 12, 20, 40, 20, 99, 20);
        });
        s.test(0, "a FORGED one 9 less how BRIGHT it is, in NIGHTS of an odd number 1 more;", () -> {
            glow("f0100", 0, 9, 1, 10, 2, 9, 98, 9, 99, 10);
            glow("f0109", 0, 0, 1, 1, 2, 0, 99, 1);
            glow("f0105", 0, 4, 1, 5, 40, 4, 41, 5);
        });
        s.test(0, "an OLD one as a DEW one, but from NIGHT 5 on half (cut) of that;", () -> {
            glow("o0100", 0, 0, 4, 4, 5, 2, 6, 3, 7, 3, 20, 10, 21, 10, 99, 10);
            glow("o0109", 0, 9, 4, 13, 5, 7, 10, 9, 11, 10, 99, 10);
        });
        s.test(0, "a LAMP as a FORGED one, 5 at least.", () -> {
            glow("m0100", 0, 9, 1, 10, 99, 10);
            glow("m0103", 0, 6, 1, 7);
            glow("m0104", 0, 5, 1, 6);
            glow("m0105", 0, 5, 1, 5);
            glow("m0106", 0, 5, 1, 5);
            glow("m0109", 0, 5, 1, 5, 99, 5);
        });
    }

    private void nights() {
        s.test(0, "NIGHT 0 it is at first, all LIGHTS are lit.", () -> {
            s.is("the NIGHT without LIGHTS", new GlowDebts().count(1), 0);
            GlowDebts x = Due.bank("d0105 f0105 m0105");
            s.is("the NIGHT", x.count(1), 0);
            s.is("LIGHTS that are lit", x.count(3), 7);
            part(x, 0, 6, 5);
        });
        s.test(0, "In a PLACE it is as bright as all LIGHTS that are lit GLOW there together:", () -> {
            GlowDebts x = Due.bank("l0145 d0145 j0145 f0145 o0145 m0145");
            s.is("bright(4)", x.bright(4), 5 + 5 + 3 + 4 + 5 + 5);
            x.answer(5);
            s.is("bright(4), one answered", x.bright(4), 5 + 5 + 3 + 4 + 5);
            x.night();
            s.is("bright(4) in NIGHT 1", x.bright(4), 5 + 6 + 3 + 5 + 6);
        });
        s.test(0, "each as it GLOWS, less 2 for each PLACE that it is away (0 at least).", () -> {
            int[] odd = {0, 1, 3, 5, 7, 5, 3, 1, 0, 0};
            int[] even = {0, 0, 2, 4, 6, 4, 2, 0, 0, 0};
            GlowDebts x = Due.bank("l0147");
            GlowDebts y = Due.bank("l0146");
            for (int place = 0; place <= 9; place++) {
                s.is("bright(" + place + ") of 7 in PLACE 4", x.bright(place), odd[place]);
                s.is("bright(" + place + ") of 6 in PLACE 4", y.bright(place), even[place]);
            }
            // each by itself is 0 at least: one that is far takes nothing from another one
            s.is("bright(9) of 1 in PLACE 0, 3 in PLACE 9", Due.bank("l0101 l0193").bright(9), 3);
        });
    }

    private void ring(String words, int answered, int lights, int which) {
        GlowDebts x = Due.bank(words);
        for (int k = 0; k < 8; k++) {
            if ((answered >> k & 1) == 1) {
                x.answer(k);
            }
        }
        s.asked("ring() of '" + words + "', answered " + answered, x, x.ring(), lights, which);
    }

    private void rings() {
        s.test(0, "A RING is a set of LIGHTS that are lit, of no FORGED ones (nor LAMPS), in which each of PEOPLE OWES as often "
                + "as to one is owed", () -> {
            ring("l0105 l1005", 0, 2, 3);
            ring("l0105 l1005", 1, 0, 0);
            ring("l0105 l1005", 2, 0, 0);
            ring("l0105 f1005", 0, 0, 0);
            ring("m0105 l1005", 0, 0, 0);
            ring("l0105 j1205 d2305 o3405 l4505 l5005", 0, 6, 63);
            ring("l0105 l1205", 0, 0, 0);
            ring("l0105 l0105 l1005", 0, 2, 5);
            ring("l0105 l0105 l1005 l1005", 0, 4, 15);
        });
        s.test(0, "(none is a RING, too).", () -> {
            ring("l0105", 0, 0, 0);
            ring("f0105 f1005", 0, 0, 0);
            s.is("rings(0), without that one", Due.bank("l0105").rings(0), 0);
        });
    }

    private void deeds() {
        s.test(0, "What is done: a NIGHT passes (40 at most),", () -> {
            GlowDebts x = Sentences.nights(Due.bank("d0105"), 39);
            s.is("night() to 40", x.night(), 20);
            s.is("the NIGHT", x.count(1), 40);
            s.refused("night() in NIGHT 40", x, x::night, Sentences.STATE, 0);
        });
        s.test(0, "a LIGHT is answered (lit no more), lit again, carried to another PLACE.", () -> {
            GlowDebts x = Due.bank("l0105");
            x.answer(0);
            s.is("lit", x.count(3), 0);
            x.relight(0);
            s.is("lit again", x.count(3), 1);
            x.carry(0, 4);
            part(x, 0, 3, 4);
            s.refused("carry(0, 4), no other PLACE", x, () -> x.carry(0, 4), Sentences.STATE, 0);
        });
        s.test(0, "These are DEEDS (40 at most).", () -> {
            GlowDebts x = Due.bank("l0105");
            x.night();
            x.answer(0);
            x.relight(0);
            x.carry(0, 1);
            s.is("DEEDS of each sort", x.count(2), 4);
            for (int deed = 4; deed < 40; deed++) {
                s.is("carry, DEED " + deed, x.carry(0, 1 + (deed + 1) % 2), 1 + deed % 2);
            }
            s.is("DEEDS", x.count(2), 40);
            s.refused("a DEED more", x, () -> x.carry(0, 9), Sentences.FULL, 0);
        });
    }

    private void aside() {
        s.test(0, "---- 3 how bright it is (aside).", () -> {
            GlowDebts x = rich();
            long digest = x.digest();
            x.bright(0);
            x.along(0, 9);
            x.when(0, 20);
            x.stow(0, 0, 9);
            x.dark(3);
            x.road();
            s.is("digest() behind them", x.digest(), digest);
        });
        s.test(0, "---- 4 rings of debts (aside).", () -> {
            GlowDebts x = rich();
            long digest = x.digest();
            x.owes(0);
            x.ring();
            x.rings(0);
            x.least(0);
            x.dim(0, 0);
            s.is("digest() behind them", x.digest(), digest);
            s.is("chain(0, 2, 0)", x.chain(0, 2, 0), 2);
            Due.lay(x, 0, 9, 8, 7);
            s.is("digest() behind chain(), but its ROW", x.digest(), digest);
        });
        s.test(0, "(a ROW of pairs: a NIGHT 0 .. 99, how it GLOWED 0 .. 99)", () -> {
            s.is("NIGHT 0", Sentences.bankAndRow("l0105", 0, 5).firsts(0, 0), 32);
            s.is("NIGHT 99", Sentences.bankAndRow("l0105", 99, 5).firsts(0, 0), 32);
            s.is("it GLOWED 0", Sentences.bankAndRow("l0105", 5, 0).firsts(0, 0), 1);
            s.is("it GLOWED 99", Sentences.bankAndRow("l0105", 5, 99).firsts(0, 0), 0);
            int[][] none = {{100, 5}, {-1, 5}, {5, 100}, {5, -1}, {0, 5, Integer.MAX_VALUE, 5},
                {0, 5, 1, Integer.MIN_VALUE}};
            for (int[] pairs : none) {
                GlowDebts x = Sentences.bankAndRow("l0105", pairs);
                s.found("no number in a ROW of " + pairs.length, x, () -> x.firsts(0, 0), Sentences.UNLIKE);
            }
        });
    }
}
