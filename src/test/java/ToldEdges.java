import java.util.function.Consumer;
import java.util.function.Supplier;

/** Promises 42 to 48, sentence by sentence. */
final class ToldEdges {
    private final Sentences s;

    ToldEdges(Sentences s) {
        this.s = s;
    }

    void all() {
        asked();
        askedNotRefused();
        upperLower();
        count();
        findings();
        digest();
    }

    /** LIGHTS 0 to 1, 1 to 0, ROW 0 of 77, 3, ROW 1 of a pair that no LIGHT could be of; 77 is told. */
    private static GlowDebts some() {
        GlowDebts x = Sentences.bankAndRow("l0105 d1036", 77, 3);
        Due.lay(x, 1, 0, 99);
        x.at(0, 0);
        return x;
    }

    private void tells(String what, Consumer<GlowDebts> call, int told) {
        GlowDebts x = some();
        call.accept(x);
        s.is("asked() behind " + what, x.asked(), told);
        s.is("asked() once more", x.asked(), told);
    }

    private void asked() {
        s.test(42, "What the latest lay(), at(), mean(), light(), when(), stow(), dark(), road(), ring(), least(), dim(), test()",
                () -> {
            tells("lay(0, 1, 8)", x -> x.lay(0, 1, 8), 3);
            tells("at(0, 1)", x -> x.at(0, 1), 3);
            tells("mean(0)", x -> x.mean(0), 40);
            tells("light(1, 4)", x -> x.light(1, 4), 6);
            tells("when(0, 6)", x -> x.when(0, 6), 6);
            tells("stow(0, 3, 3)", x -> x.stow(0, 3, 3), 6);
            tells("dark(10)", x -> x.dark(10), 9 + 2 + 4 + 6 + 4 + 2);
            tells("road()", x -> x.road(), 1023);
            tells("ring()", x -> x.ring(), 3);
            tells("least(0)", x -> x.least(0), 3);
            tells("dim(0, 0)", x -> x.dim(0, 0), 1);
            tells("test(0, 2)", x -> {
                x.row(2, 0);
                x.test(0, 2);
            }, 2);
            tells("what tells by other ways", x -> {
                x.row(3, 2);
                x.copy(0, 1, 3, 0, 1);
                x.tear(3);
                x.text(1, 4);
                x.put(1, 0, 5);
                x.fault(1);
                x.mark(1, 2);
                x.glows(1, 9);
                x.night();
                x.answer(0);
                x.relight(0);
                x.carry(0, 3);
                x.keep(0);
                x.on(0);
                x.lots(2, 1);
                x.undo(0);
                x.bright(0);
                x.along(0, 9);
                x.owes(0);
                x.rings(0);
                x.chain(0, 1, 4);
                x.row(2, 0);
                x.firsts(0, 2);
                x.kinds(0, 2);
                x.duel(0, 3);
                x.odds(0, 3, 3);
                x.mid(0, 3);
                x.upper();
                x.lower();
                x.count(3);
                x.finding();
                x.findings(1);
                x.digest();
                x.bank(0);
            }, 77);
        });
        s.test(42, "told; 0 before.", () -> {
            GlowDebts x = new GlowDebts();
            s.is("asked() at first", x.asked(), 0);
            x.at(0, 0);
            x.dark(1);
            s.is("asked() behind what was refused", x.asked(), 0);
        });
    }

    private void askedNotRefused() {
        s.test(42, "that was not refused (nor answered NONE)", () -> {
            tells("lay(0, 2, 8), BEYOND", x -> x.lay(0, 2, 8), 77);
            tells("at(5, 0), NOTHING", x -> x.at(5, 0), 77);
            tells("mean(2), NOUGHT", x -> {
                x.row(2, 0);
                x.mean(2);
            }, 77);
            tells("light(2, 0), BAD", x -> x.light(2, 0), 77);
            tells("light(0, 7), BAD", x -> x.light(0, 7), 77);
            tells("when(10, 0), BAD", x -> x.when(10, 0), 77);
            tells("when(9, 100), NONE", x -> x.when(9, 100), 77);
            tells("stow(2, 0, 0), BAD", x -> x.stow(2, 0, 0), 77);
            tells("dark(0), BAD", x -> x.dark(0), 77);
            tells("least(2), BAD", x -> x.least(2), 77);
            tells("least(0), NONE", x -> {
                x.answer(1);
                x.least(0);
            }, 77);
            tells("dim(0, 100), BAD", x -> x.dim(0, 100), 77);
            tells("test(0, 1), NONE", x -> x.test(0, 1), 77);
            tells("test(0, 5), NOTHING", x -> x.test(0, 5), 77);
            GlowDebts none = new GlowDebts();
            Due.lay(none, 0, 77);
            none.at(0, 0);
            none.dark(1);
            none.road();
            none.ring();
            s.is("asked() behind dark(), road(), ring(), STATE", none.asked(), 77);
        });
    }

    private void upperLower() {
        s.test(43, "The upper number that was told last; 0 before.", () -> {
            GlowDebts x = new GlowDebts();
            s.is("upper() at first", x.upper(), 0);
            Due.write(x, 0, "l0105");
            x.bank(0);
            s.is("upper() behind bank()", x.upper(), 0);
            x.odds(0, 0, 9);
            s.is("upper() behind odds(0, 0, 9)", x.upper(), 3);
            x.mid(0, 5);
            s.is("upper() behind mid(0, 5)", x.upper(), 35);
            x.odds(0, 0, 13);
            x.mid(10, 0);
            x.mean(0);
            x.bank(0);
            s.is("upper() behind what was refused, or tells by asked()", x.upper(), 35);
            x.mid(0, 12);
            s.is("upper() behind mid(0, 12)", x.upper(), 0);
        });
        s.test(44, "Its lower number; 1 before.", () -> {
            GlowDebts x = new GlowDebts();
            s.is("lower() at first", x.lower(), 1);
            x.odds(0, 0, 9);
            x.mid(0, 5);
            s.is("lower() behind STATE", x.lower(), 1);
            Due.write(x, 0, "l0105");
            x.bank(0);
            x.odds(0, 0, 9);
            s.is("lower() behind odds(0, 0, 9)", x.lower(), 4);
            x.mid(0, 5);
            s.is("lower() behind mid(0, 5)", x.lower(), 12);
            x.odds(0, 0, -1);
            s.is("lower() behind BAD", x.lower(), 12);
            x.odds(0, 0, 0);
            s.is("lower() behind odds(0, 0, 0)", x.lower(), 1);
        });
    }

    /** Six LIGHTS, one of each KIND, in NIGHT 1; LIGHTS 0, 3 are not lit. */
    private static GlowDebts six() {
        GlowDebts x = Due.bank("l0125 j1236 d2347 f3458 o4569 m5073");
        x.night();
        x.answer(0);
        x.answer(3);
        return x;
    }

    private void counts(int what, Supplier<GlowDebts> made, int due) {
        s.is("count(" + what + ")", made.get().count(what), due);
    }

    private void count() {
        s.test(45, "0 LIGHTS, 1 the NIGHT, 2 DEEDS,", () -> {
            counts(0, GlowDebts::new, 0);
            counts(1, GlowDebts::new, 0);
            counts(2, GlowDebts::new, 0);
            counts(0, ToldEdges::six, 6);
            counts(1, ToldEdges::six, 1);
            counts(2, ToldEdges::six, 3);
            counts(0, () -> Due.bank("l0105l0105l0105l0105l0105l0105l0105l0105"), 8);
            counts(1, () -> Sentences.nights(six(), 39), 38);
            counts(2, () -> Sentences.nights(six(), 39), 40);
        });
        s.test(45, "3 LIGHTS that are lit (bits), 4 how they GLOW together,", () -> {
            counts(3, GlowDebts::new, 0);
            counts(4, GlowDebts::new, 0);
            counts(3, ToldEdges::six, 2 + 4 + 16 + 32);
            counts(4, ToldEdges::six, 3 + 8 + 10 + 7);
            counts(3, () -> Due.bank("l0105l0105l0105l0105l0105l0105l0105l0105"), 255);
            counts(4, () -> Sentences.nights(Due.bank("d0109d0109d0109d0109d0109d0109d0109d0109"), 40), 160);
        });
        s.test(45, "5 FORGED ones (LAMPS, too; lit or not), 6 DEW ones (OLD, too; lit or not),", () -> {
            counts(5, GlowDebts::new, 0);
            counts(6, GlowDebts::new, 0);
            counts(5, ToldEdges::six, 2);
            counts(6, ToldEdges::six, 2);
            counts(5, () -> Due.bank("f0105m0105m0105"), 3);
            counts(6, () -> Due.bank("f0105m0105m0105"), 0);
            counts(5, () -> Due.bank("l0105j0105"), 0);
            counts(6, () -> Due.bank("l0105j0105o0105"), 1);
        });
        s.test(45, "7 ROWS, 8 TEXTS that are there, 9 kept BANKS.", () -> {
            GlowDebts x = six();
            for (int r = 0; r < 6; r++) {
                s.is("count(7)", x.count(7), r);
                x.row(r, r % 2);
            }
            s.is("count(7), all", x.count(7), 6);
            x.tear(3);
            s.is("count(7), one torn", x.count(7), 5);
            for (int t = 0; t < 4; t++) {
                x.text(t, 0);
                s.is("count(8)", x.count(8), t + 1);
            }
            for (int k = 0; k < 3; k++) {
                s.is("count(9)", x.count(9), k);
                x.keep(k);
            }
            x.keep(1);
            x.on(1);
            s.is("count(9), all", x.count(9), 3);
            GlowDebts one = Due.bank("l0105");
            one.keep(2);
            s.is("count(9), a BANK of one LIGHT", one.count(9), 1);
            one.bank(0);
            s.is("count(9) behind bank(0)", one.count(9), 0);
        });
        s.test(45, "BAD.", () -> {
            s.bounds("count(.)", GlowDebts::new, (x, what) -> x.count(what), 0, 9);
            s.bounds("count(.)", ToldEdges::six, (x, what) -> x.count(what), 0, 9);
        });
    }

    private void findings() {
        s.test(46, "The latest FINDING (0 before any).", () -> {
            GlowDebts x = new GlowDebts();
            s.is("finding() at first", x.finding(), 0);
            x.row(6, 0);
            x.night();
            s.is("finding() behind BAD, STATE", x.finding(), 0);
            x.tear(0);
            s.is("finding() behind tear(0)", x.finding(), Sentences.NOTHING);
            x.row(0, -1);
            s.is("finding() behind row(0, -1)", x.finding(), Sentences.SIZE);
            x.row(0, 0);
            x.row(6, 0);
            x.when(0, 1);
            s.is("finding() behind what is well, BAD, NONE", x.finding(), Sentences.SIZE);
            x.tear(1);
            s.is("finding() behind tear(1)", x.finding(), Sentences.NOTHING);
        });
        s.test(47, "How often a FINDING (1 .. 5) was answered.", () -> {
            GlowDebts x = Sentences.bankAndRow("l0105");
            for (int f = 1; f <= 5; f++) {
                s.is("findings(" + f + ") at first", x.findings(f), 0);
            }
            x.tear(5);
            x.mean(0);
            x.mark(0, 1);
            x.mark(0, 5);
            x.at(0, 0);
            x.put(0, 5, 5);
            x.lay(0, -1, 0);
            x.row(0, -1);
            x.text(0, -1);
            x.copy(0, 0, 0, 0, -1);
            x.whose(0, 0);
            x.mean(6);
            int[] due = {1, 3, 2, 1, 4};
            for (int f = 1; f <= 5; f++) {
                s.is("findings(" + f + ")", x.findings(f), due[f - 1]);
            }
            x.bank(0);
            s.is("findings(5) behind bank(0)", x.findings(5), 4);
        });
        s.test(47, "BAD.", () -> s.bounds("findings(.)", GlowDebts::new, (x, f) -> x.findings(f), 1, 5));
    }

    private static long fold(long h, long... values) {
        for (long v : values) {
            h = 31 * h + v;
        }
        return h;
    }

    private void digest() {
        s.test(48, "h = 17; then h = 31 h + v for each v", () -> {
            GlowDebts x = new GlowDebts();
            // ten counts, three kept BANKS, six ROWS, four TEXTS
            s.is("digest() at first", x.digest(), fold(17, 0, 0, 0, 0, 0, 0, 0, 0, 0, 0, -1, -1, -1,
                    -1, -1, -1, -1, -1, -1, -1, -1, -1, -1));
            s.is("digest() once more", x.digest(), new GlowDebts().digest());
        });
        s.test(48, "(of a call that tells by asked(): what it tells, not the 1 that it answers; asked() stays):", () -> {
            GlowDebts x = some();
            x.digest();
            s.is("asked() behind digest()", x.asked(), 77);
            long before = x.digest();
            x.at(0, 1);
            s.is("digest() does not look at asked()", x.digest(), before);
            x.tear(5);
            x.odds(0, 0, 5);
            s.is("digest() does not look at finding(), upper()", x.digest(), before);
        });
        s.test(48, "count() 0 to 9; of each LIGHT light() 0 to 6; of each kept BANK how many DEEDS (-1: missing); of each ROW its "
                + "size (-1: missing) and places, of each TEXT likewise.", () -> {
            GlowDebts x = new GlowDebts();
            Due.write(x, 1, "d0125 f1037");
            x.bank(1);
            x.keep(0);
            x.night();
            x.keep(2);
            x.answer(0);
            Due.lay(x, 0, Integer.MIN_VALUE, -9);
            x.row(4, 0);
            x.text(0, 0);
            x.text(3, 1);
            x.put(3, 0, 128);
            long h = fold(17, 2, 1, 2, 2, 3, 1, 1, 2, 3, 2);
            h = fold(h, 2, 0, 1, 2, 5, 0, 6, 3, 1, 0, 3, 7, 1, 3);
            h = fold(h, 0, -1, 1);
            h = fold(h, 2, Integer.MIN_VALUE, -9, -1, -1, -1, 0, -1);
            h = fold(h, 0, 11, 'd', '0', '1', '2', '5', ' ', 'f', '1', '0', '3', '7', -1, 1, -128);
            s.is("digest()", x.digest(), h);
        });
    }
}
