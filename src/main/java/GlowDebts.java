/**
 * The accounts of love that glow-worms keep along a bank: lights of kinds, deeds done night by night,
 * and what can be asked of them. The numbered promises stand in ../shared/DOC.md.
 */
public final class GlowDebts {
    public static final int BAD = -1, FULL = -2, FINDING = -3, STATE = -4, SPENT = -6, NONE = -9;

    private static final int FINE = 0;
    private static final int NOTHING = 1, BEYOND = 2, UNLIKE = 3, NOUGHT = 4, SIZE = 5;
    private static final int LIGHT = 0, JAR = 1, DEW = 2, FORGED = 3, OLD = 4, LAMP = 5;

    private static final int ROWS = 6, ROW_SIZE = 40;
    private static final int TEXTS = 4, TEXT_SIZE = 60;
    private static final int PEOPLE = 6, PLACES = 10, FIGURES = 10, LIGHTS = 8, KINDS = 6;
    private static final int NIGHTS = 40, DEEDS = 40, KEPT = 3;
    private static final int BLANK = 32;
    private static final int MOST_NIGHT = 99, MOST_GLOW = 99, MOST_AWAITED = 200, MOST_TOLD = 200;
    private static final int TURNS = 4, TWELVE = 12;
    private static final int MOST_LOTS = 20, MOST_SEED = 2147483646;

    private final Strip[] rows = new Strip[ROWS];
    private final Strip[] texts = new Strip[TEXTS];
    private final Bank now = new Bank();
    private final Bank[] keeps = new Bank[KEPT];
    private final Sets sets = new Sets();
    private final Chains chains = new Chains();
    private final int[] found = new int[SIZE + 1];
    private int latestFound = 0;
    private int toldAside = 0;
    private long toldUpper = 0;
    private long toldLower = 1;

    public GlowDebts() {
        for (int r = 0; r < rows.length; r++) {
            rows[r] = new Strip(ROW_SIZE);
        }
        for (int t = 0; t < texts.length; t++) {
            texts[t] = new Strip(TEXT_SIZE);
        }
        for (int k = 0; k < keeps.length; k++) {
            keeps[k] = new Bank();
        }
    }

    // ---- 1 rows, texts, banks

    public int row(int r, int n) {
        return makeAnew(rowOf(r), n, 0);
    }

    public int lay(int r, int i, int v) {
        Strip strip = rowOf(r);
        int refused = refusedAt(strip, i);
        if (strip == null || refused != FINE) {
            return refused;
        }
        toldAside = strip.get(i);
        strip.set(i, v);
        return 1;
    }

    public int at(int r, int i) {
        Strip strip = rowOf(r);
        int refused = refusedAt(strip, i);
        if (strip == null || refused != FINE) {
            return refused;
        }
        toldAside = strip.get(i);
        return 1;
    }

    public int tear(int r) {
        Strip strip = rowOf(r);
        int refused = refusedMissing(strip);
        if (strip == null || refused != FINE) {
            return refused;
        }
        strip.remove();
        return 1;
    }

    public int copy(int r, int i, int to, int j, int n) {
        Strip source = rowOf(r);
        Strip target = rowOf(to);
        if (source == null || target == null) {
            return BAD;
        }
        if (n < 0) {
            return refuse(SIZE);
        }
        if (source.isMissing() || target.isMissing()) {
            return refuse(NOTHING);
        }
        if (!source.holdsRun(i, n) || !target.holdsRun(j, n)) {
            return refuse(BEYOND);
        }
        target.takeRun(j, source, i, n);
        return 1;
    }

    public int mean(int r) {
        Strip strip = rowOf(r);
        int refused = refusedMissing(strip);
        if (strip == null || refused != FINE) {
            return refused;
        }
        int size = strip.size();
        if (size == 0) {
            return refuse(NOUGHT);
        }
        toldAside = (int) (strip.total() / size);
        return 1;
    }

    public int text(int t, int n) {
        return makeAnew(textOf(t), n, BLANK);
    }

    public int put(int t, int i, int v) {
        Strip strip = textOf(t);
        int refused = refusedAt(strip, i);
        if (strip == null || refused != FINE) {
            return refused;
        }
        int before = strip.get(i);
        strip.set(i, (byte) v);
        return before + 1000;
    }

    public int fault(int t) {
        Strip strip = textOf(t);
        int refused = refusedMissing(strip);
        if (strip == null || refused != FINE) {
            return refused;
        }
        return Wording.firstFault(strip);
    }

    public int bank(int t) {
        Strip strip = textOf(t);
        int refused = refusedMissing(strip);
        if (strip == null || refused != FINE) {
            return refused;
        }
        if (Wording.firstFault(strip) != NONE) {
            return STATE;
        }
        Wording.readInto(now, strip);
        for (int k = 0; k < keeps.length; k++) {
            Bank gone = keepOf(k);
            if (gone != null) {
                gone.clear();
            }
        }
        return now.size();
    }

    public int light(int k, int what) {
        if (!now.has(k) || what < 0 || what > 6) {
            return BAD;
        }
        toldAside = now.partOf(k, what);
        return 1;
    }

    public int mark(int k, int kind) {
        if (!now.has(k) || kind <= LIGHT || kind >= KINDS) {
            return BAD;
        }
        if (!Kinds.isOf(now.kindOf(k), kind)) {
            return refuse(UNLIKE);
        }
        return Kinds.signOf(kind, now.kindOf(k), now.firstOf(k), now.thisNight());
    }

    public int glows(int k, int night) {
        if (!now.has(k) || night < 0 || night > MOST_NIGHT) {
            return BAD;
        }
        return now.glowOf(k, night);
    }

    // ---- 2 deeds

    public int night() {
        if (now.size() == 0 || now.thisNight() >= NIGHTS) {
            return STATE;
        }
        if (now.deedsDone() >= DEEDS) {
            return FULL;
        }
        now.passNight();
        return now.litGlow();
    }

    public int answer(int k) {
        if (!now.has(k)) {
            return BAD;
        }
        if (!now.isLit(k)) {
            return STATE;
        }
        if (now.deedsDone() >= DEEDS) {
            return FULL;
        }
        now.putOut(k);
        return now.glowOf(k, now.thisNight());
    }

    public int relight(int k) {
        if (!now.has(k)) {
            return BAD;
        }
        if (now.isLit(k)) {
            return STATE;
        }
        if (now.deedsDone() >= DEEDS) {
            return FULL;
        }
        now.lightAgain(k);
        return now.glowOf(k, now.thisNight());
    }

    public int carry(int k, int place) {
        if (!now.has(k) || !isPlace(place)) {
            return BAD;
        }
        int before = now.placeOf(k);
        if (before == place) {
            return STATE;
        }
        if (now.deedsDone() >= DEEDS) {
            return FULL;
        }
        now.carryTo(k, place);
        return before;
    }

    public int undo(int n) {
        if (n < 0 || n > now.deedsDone()) {
            return BAD;
        }
        int undone = now.deedsDone() - n;
        now.takeBackFrom(n);
        return undone;
    }

    public int keep(int k) {
        Bank kept = keepOf(k);
        if (kept == null) {
            return BAD;
        }
        if (now.size() == 0) {
            return STATE;
        }
        kept.become(now);
        return kept.deedsDone();
    }

    public int on(int k) {
        Bank kept = keepOf(k);
        if (kept == null) {
            return BAD;
        }
        if (kept.size() == 0) {
            return refuse(NOTHING);
        }
        now.become(kept);
        return now.deedsDone();
    }

    // ---- 3 how bright it is

    public int bright(int place) {
        return isPlace(place) ? now.brightAt(place, now.thisNight()) : BAD;
    }

    public int along(int from, int to) {
        return isStretch(from, to) ? now.brightAlong(from, to) : BAD;
    }

    public int when(int place, int v) {
        if (!isPlace(place) || v < 0 || v > MOST_AWAITED) {
            return BAD;
        }
        for (int nights = 0; nights <= NIGHTS; nights++) {
            int then = now.brightAt(place, now.thisNight() + nights);
            if (then >= v) {
                toldAside = then;
                return nights;
            }
        }
        return NONE;
    }

    public int stow(int k, int from, int to) {
        if (!now.has(k) || !isStretch(from, to)) {
            return BAD;
        }
        int others = now.brightAlong(from, to) - now.shareAlong(k, now.placeOf(k), from, to);
        int best = 0;
        int least = now.shareAlong(k, 0, from, to);
        for (int place = 1; place < PLACES; place++) {
            int share = now.shareAlong(k, place, from, to);
            if (share < least) {
                least = share;
                best = place;
            }
        }
        toldAside = others + least;
        return best;
    }

    public int dark(int n) {
        if (n < 1 || n > PLACES) {
            return BAD;
        }
        if (now.size() == 0) {
            return STATE;
        }
        int best = 0;
        int least = now.brightAlong(0, n - 1);
        for (int from = 1; from + n <= PLACES; from++) {
            int together = now.brightAlong(from, from + n - 1);
            if (together < least) {
                least = together;
                best = from;
            }
        }
        toldAside = least;
        return best;
    }

    public int road() {
        if (now.size() == 0) {
            return STATE;
        }
        int way = Ways.darkest(now);
        toldAside = Ways.placesOnRoad(way);
        return Ways.brightness(way);
    }

    // ---- 4 rings of debts

    public int owes(int one) {
        return isPerson(one) ? now.balanceOf(one) : BAD;
    }

    public int ring() {
        if (now.size() == 0) {
            return STATE;
        }
        int largest = sets.largestRing(now);
        toldAside = largest;
        return Integer.bitCount(largest);
    }

    public int rings(int k) {
        return now.has(k) ? sets.ringsWith(now, k) : BAD;
    }

    public int least(int k) {
        if (!now.has(k)) {
            return BAD;
        }
        int smallest = sets.smallestRingWith(now, k);
        if (smallest == 0) {
            return NONE;
        }
        toldAside = smallest;
        return Integer.bitCount(smallest);
    }

    public int chain(int from, int to, int r) {
        Strip strip = rowOf(r);
        if (!isPerson(from) || !isPerson(to) || strip == null) {
            return BAD;
        }
        int lights = chains.shortest(now, from, to);
        if (lights == NONE) {
            return NONE;
        }
        chains.write(now, from, strip);
        return lights;
    }

    public int dim(int place, int v) {
        if (!isPlace(place) || v < 0 || v > MOST_GLOW) {
            return BAD;
        }
        int fewest = sets.fewestToAnswer(now, place, v);
        toldAside = fewest;
        return Integer.bitCount(fewest);
    }

    // ---- 5 whose a light is

    public int firsts(int k, int r) {
        Strip looks = rowOf(r);
        int refused = refusedLooks(k, looks);
        if (looks == null || refused != FINE) {
            return refused;
        }
        return Looks.fittingFirsts(now.kindOf(k), looks);
    }

    public int kinds(int k, int r) {
        Strip looks = rowOf(r);
        int refused = refusedLooks(k, looks);
        if (looks == null || refused != FINE) {
            return refused;
        }
        return Looks.fittingKinds(now.firstOf(k), looks);
    }

    public int test(int k, int r) {
        Strip looks = rowOf(r);
        int refused = refusedLooks(k, looks);
        if (looks == null || refused != FINE) {
            return refused;
        }
        int first = now.firstOf(k);
        int fitting = Looks.fittingKinds(first, looks);
        if (fitting == 0) {
            return NONE;
        }
        int best = Looks.tellingNight(fitting, first);
        toldAside = Looks.largestPart(fitting, first, best);
        return best;
    }

    public int whose(int k, int r) {
        Strip told = rowOf(r);
        if (!now.has(k) || told == null) {
            return BAD;
        }
        if (told.isMissing()) {
            return refuse(NOTHING);
        }
        if (told.size() != PEOPLE) {
            return refuse(SIZE);
        }
        return Looks.areTold(told) ? Looks.fittingOwers(now, k, told) : refuse(UNLIKE);
    }

    // ---- 6 by turns

    public int duel(int place, int n) {
        if (!isPlace(place) || n < 0 || n > TURNS) {
            return BAD;
        }
        return now.size() == 0 ? STATE : sets.afterTurns(now, place, n);
    }

    // ---- 7 chances, lots

    public int odds(int place, int v, int p) {
        if (!isPlace(place) || v < 0 || v > MOST_GLOW || p < 0 || p > TWELVE) {
            return BAD;
        }
        if (now.size() == 0) {
            return STATE;
        }
        long ways = sets.waysToBeDark(now, place, v, p);
        tellInLowestTerms(ways, Sets.power(TWELVE, Integer.bitCount(now.litSet())));
        return 1;
    }

    public int mid(int place, int p) {
        if (!isPlace(place) || p < 0 || p > TWELVE) {
            return BAD;
        }
        if (now.size() == 0) {
            return STATE;
        }
        long whole = now.brightAt(place, now.thisNight());
        tellInLowestTerms(whole * (TWELVE - p), TWELVE);
        return 1;
    }

    public int lots(int n, int seed) {
        if (n < 1 || n > MOST_LOTS || seed < 1 || seed > MOST_SEED) {
            return BAD;
        }
        if (now.size() == 0) {
            return STATE;
        }
        if (now.deedsDone() + n > DEEDS) {
            return FULL;
        }
        long lot = seed;
        for (int i = 0; i < n; i++) {
            lot = lot * 48271 % (MOST_SEED + 1);
            now.doByLot(lot);
        }
        return now.litGlow();
    }

    // ---- 8 what is told

    public int asked() {
        return toldAside;
    }

    public long upper() {
        return toldUpper;
    }

    public long lower() {
        return toldLower;
    }

    public int count(int what) {
        switch (what) {
            case 0: return now.size();
            case 1: return now.thisNight();
            case 2: return now.deedsDone();
            case 3: return now.litSet();
            case 4: return now.litGlow();
            case 5: return now.howManyOf(FORGED);
            case 6: return now.howManyOf(DEW);
            case 7: return howManyThere(rows);
            case 8: return howManyThere(texts);
            case 9: return howManyKept();
            default: return BAD;
        }
    }

    public int finding() {
        return latestFound;
    }

    public int findings(int f) {
        return f >= NOTHING && f < found.length ? found[f] : BAD;
    }

    public long digest() {
        long h = 17;
        for (int what = 0; what <= 9; what++) {
            h = 31 * h + count(what);
        }
        for (int k = 0; k < now.size(); k++) {
            for (int what = 0; what <= 6; what++) {
                h = 31 * h + now.partOf(k, what);
            }
        }
        for (int k = 0; k < keeps.length; k++) {
            Bank kept = keepOf(k);
            h = 31 * h + (kept == null || kept.size() == 0 ? -1 : kept.deedsDone());
        }
        h = digestOf(h, rows);
        return digestOf(h, texts);
    }

    // ---- behind the face

    private static boolean isPlace(int place) {
        return place >= 0 && place < PLACES;
    }

    private static boolean isPerson(int one) {
        return one >= 0 && one < PEOPLE;
    }

    private static boolean isStretch(int from, int to) {
        return isPlace(from) && isPlace(to) && from <= to;
    }

    private Strip rowOf(int r) {
        return r >= 0 && r < rows.length ? rows[r] : null;
    }

    private Strip textOf(int t) {
        return t >= 0 && t < texts.length ? texts[t] : null;
    }

    private Bank keepOf(int k) {
        return k >= 0 && k < keeps.length ? keeps[k] : null;
    }

    private int refuse(int finding) {
        if (finding >= 0 && finding < found.length) {
            found[finding]++;
            latestFound = finding;
        }
        return FINDING;
    }

    private int refusedMissing(Strip strip) {
        if (strip == null) {
            return BAD;
        }
        return strip.isMissing() ? refuse(NOTHING) : FINE;
    }

    private int refusedAt(Strip strip, int i) {
        int refused = refusedMissing(strip);
        if (strip == null || refused != FINE) {
            return refused;
        }
        return strip.holds(i) ? FINE : refuse(BEYOND);
    }

    private int refusedLooks(int k, Strip looks) {
        if (!now.has(k) || looks == null) {
            return BAD;
        }
        if (looks.isMissing()) {
            return refuse(NOTHING);
        }
        if (looks.size() % 2 != 0) {
            return refuse(SIZE);
        }
        return Looks.arePairs(looks) ? FINE : refuse(UNLIKE);
    }

    private int makeAnew(Strip strip, int n, int filling) {
        if (strip == null || n > strip.room()) {
            return BAD;
        }
        if (n < 0) {
            return refuse(SIZE);
        }
        strip.renew(n, filling);
        return n;
    }

    private void tellInLowestTerms(long above, long below) {
        long divisor = greatestDivisor(above, below);
        if (divisor > 0) {
            toldUpper = above / divisor;
            toldLower = below / divisor;
        }
    }

    private static long greatestDivisor(long a, long b) {
        long greater = a;
        long rest = b;
        for (int i = 0; i < 200 && rest != 0; i++) {
            long next = greater % rest;
            greater = rest;
            rest = next;
        }
        return greater;
    }

    private static int howManyThere(Strip[] strips) {
        int there = 0;
        for (Strip strip : strips) {
            if (strip != null && !strip.isMissing()) {
                there++;
            }
        }
        return there;
    }

    private int howManyKept() {
        int there = 0;
        for (Bank kept : keeps) {
            if (kept != null && kept.size() > 0) {
                there++;
            }
        }
        return there;
    }

    private static long digestOf(long before, Strip[] strips) {
        long h = before;
        for (Strip strip : strips) {
            if (strip != null) {
                h = 31 * h + strip.size();
                for (int i = 0; i < strip.size(); i++) {
                    h = 31 * h + strip.get(i);
                }
            }
        }
        return h;
    }

    /** A ROW of ints or a TEXT of bytes; its room is made once, so that no call makes any. */
    private static final class Strip {
        private static final int MISSING = -1;

        private final int[] cells;
        private int size = MISSING;

        Strip(int room) {
            cells = new int[Math.max(0, room)];
        }

        int room() {
            return cells.length;
        }

        /** How many places; -1: missing. */
        int size() {
            return size;
        }

        boolean isMissing() {
            return size < 0;
        }

        void remove() {
            size = MISSING;
        }

        void renew(int n, int filling) {
            size = Math.max(0, Math.min(n, cells.length));
            for (int i = 0; i < size; i++) {
                cells[i] = filling;
            }
        }

        boolean holds(int i) {
            return i >= 0 && i < size;
        }

        int get(int i) {
            return holds(i) ? cells[i] : 0;
        }

        void set(int i, int v) {
            if (holds(i)) {
                cells[i] = v;
            }
        }

        boolean holdsRun(int from, int n) {
            return size >= 0 && n >= 0 && from >= 0 && from <= size - n;
        }

        void takeRun(int to, Strip source, int from, int n) {
            if (source != null && source.holdsRun(from, n) && holdsRun(to, n)) {
                System.arraycopy(source.cells, from, cells, to, n);
            }
        }

        long total() {
            long sum = 0;
            for (int i = 0; i < size; i++) {
                sum += cells[i];
            }
            return sum;
        }
    }

    /** What sets the KINDS of LIGHTS apart. */
    private static final class Kinds {
        private static final int[] LETTERS = {108, 106, 100, 102, 111, 109};

        static int ofLetter(int letter) {
            for (int kind = 0; kind < LETTERS.length; kind++) {
                if (LETTERS[kind] == letter) {
                    return kind;
                }
            }
            return NONE;
        }

        static int parentOf(int kind) {
            switch (kind) {
                case OLD: return DEW;
                case LAMP: return FORGED;
                default: return LIGHT;
            }
        }

        static boolean isOf(int kind, int wider) {
            return kind == wider || parentOf(kind) == wider || wider == LIGHT;
        }

        static int glow(int kind, int first, int night) {
            int dewy = Math.min(20, first + night);
            int forged = 9 - first + night % 2;
            switch (kind) {
                case JAR: return (first + 1) / 2;
                case DEW: return dewy;
                case FORGED: return forged;
                case OLD: return night < 5 ? dewy : dewy / 2;
                case LAMP: return Math.max(5, forged);
                default: return first;
            }
        }

        /** What a LIGHT tells of one of the KINDS it is of: it as it is set against that KIND's parent. */
        static int signOf(int kind, int own, int first, int night) {
            int more = glow(own, first, night) - glow(parentOf(kind), first, night);
            switch (kind) {
                case DEW: return more + 100;
                case FORGED: return 100 - more;
                case LAMP: return more;
                default: return -more;
            }
        }
    }

    /** The small language in which a BANK is written. */
    private static final class Wording {
        private static final int ITEM = 5;
        private static final int FIGURE_NOUGHT = 48;

        static int firstFault(Strip text) {
            int lights = 0;
            int i = 0;
            while (i < text.size()) {
                if (text.get(i) == BLANK) {
                    i++;
                } else {
                    int fault = lights >= LIGHTS ? i : itemFault(text, i);
                    if (fault != NONE) {
                        return fault;
                    }
                    lights++;
                    i += ITEM;
                }
            }
            return lights == 0 ? text.size() : NONE;
        }

        private static int itemFault(Strip text, int start) {
            if (Kinds.ofLetter(text.get(start)) == NONE) {
                return start;
            }
            for (int i = start + 1; i < start + ITEM; i++) {
                if (i >= text.size()) {
                    return text.size();
                }
                if (!isFigureOf(text, start, i - start)) {
                    return i;
                }
            }
            return NONE;
        }

        private static boolean isFigureOf(Strip text, int start, int part) {
            int figure = figureAt(text, start + part);
            int figures = part <= 2 ? PEOPLE : FIGURES;
            boolean oneself = part == 2 && figure == figureAt(text, start + 1);
            return figure >= 0 && figure < figures && !oneself;
        }

        private static int figureAt(Strip text, int i) {
            return text.get(i) - FIGURE_NOUGHT;
        }

        /** The text is without a fault. */
        static void readInto(Bank bank, Strip text) {
            bank.clear();
            int i = 0;
            while (i < text.size()) {
                if (text.get(i) == BLANK) {
                    i++;
                } else {
                    bank.add(Kinds.ofLetter(text.get(i)), figureAt(text, i + 1), figureAt(text, i + 2),
                            figureAt(text, i + 3), figureAt(text, i + 4));
                    i += ITEM;
                }
            }
        }
    }

    /** The LIGHTS as they are, and the DEEDS that brought them there. A kept BANK without LIGHTS is missing. */
    private static final class Bank {
        private static final int PASSED = 0, ANSWERED = 1, LIT_AGAIN = 2, CARRIED = 3;

        private final int[] kinds = new int[LIGHTS];
        private final int[] owers = new int[LIGHTS];
        private final int[] creditors = new int[LIGHTS];
        private final int[] places = new int[LIGHTS];
        private final int[] firsts = new int[LIGHTS];
        private final int[] deeds = new int[DEEDS];
        private int size = 0;
        private int litBits = 0;
        private int nightNow = 0;
        private int done = 0;

        void clear() {
            size = 0;
            litBits = 0;
            nightNow = 0;
            done = 0;
        }

        void add(int kind, int ower, int creditor, int place, int first) {
            if (size < LIGHTS) {
                kinds[size] = kind;
                owers[size] = ower;
                creditors[size] = creditor;
                places[size] = place;
                firsts[size] = first;
                litBits |= 1 << size;
                size++;
            }
        }

        void become(Bank other) {
            if (other == null) {
                return;
            }
            System.arraycopy(other.kinds, 0, kinds, 0, LIGHTS);
            System.arraycopy(other.owers, 0, owers, 0, LIGHTS);
            System.arraycopy(other.creditors, 0, creditors, 0, LIGHTS);
            System.arraycopy(other.places, 0, places, 0, LIGHTS);
            System.arraycopy(other.firsts, 0, firsts, 0, LIGHTS);
            System.arraycopy(other.deeds, 0, deeds, 0, DEEDS);
            size = other.size;
            litBits = other.litBits;
            nightNow = other.nightNow;
            done = other.done;
        }

        int size() {
            return size;
        }

        int thisNight() {
            return nightNow;
        }

        int deedsDone() {
            return done;
        }

        int litSet() {
            return litBits;
        }

        boolean has(int k) {
            return k >= 0 && k < size;
        }

        boolean isLit(int k) {
            return has(k) && (litBits >> k & 1) == 1;
        }

        /** Whether a LIGHT's debt counts: it is lit, and no forgery. */
        boolean isOwing(int k) {
            return isLit(k) && !Kinds.isOf(kindOf(k), FORGED);
        }

        int kindOf(int k) {
            return has(k) ? kinds[k] : NONE;
        }

        int owerOf(int k) {
            return has(k) ? owers[k] : NONE;
        }

        int creditorOf(int k) {
            return has(k) ? creditors[k] : NONE;
        }

        int placeOf(int k) {
            return has(k) ? places[k] : NONE;
        }

        int firstOf(int k) {
            return has(k) ? firsts[k] : NONE;
        }

        int partOf(int k, int what) {
            switch (what) {
                case 0: return kindOf(k);
                case 1: return owerOf(k);
                case 2: return creditorOf(k);
                case 3: return placeOf(k);
                case 4: return firstOf(k);
                case 5: return isLit(k) ? 1 : 0;
                default: return glowOf(k, nightNow);
            }
        }

        int howManyOf(int kind) {
            int many = 0;
            for (int k = 0; k < size; k++) {
                if (Kinds.isOf(kindOf(k), kind)) {
                    many++;
                }
            }
            return many;
        }

        int glowOf(int k, int night) {
            return Kinds.glow(kindOf(k), firstOf(k), night);
        }

        int litGlow() {
            int together = 0;
            for (int k = 0; k < size; k++) {
                if (isLit(k)) {
                    together += glowOf(k, nightNow);
                }
            }
            return together;
        }

        /** What is left of a glow from one PLACE in another one. */
        private static int faded(int glow, int from, int place) {
            return Math.max(0, glow - 2 * Math.abs(from - place));
        }

        /** How a LIGHT, lit or not, glows in a PLACE. */
        int glowAt(int k, int place, int night) {
            return faded(glowOf(k, night), placeOf(k), place);
        }

        int brightAt(int place, int night) {
            int together = 0;
            for (int k = 0; k < size; k++) {
                if (isLit(k)) {
                    together += glowAt(k, place, night);
                }
            }
            return together;
        }

        int brightAlong(int from, int to) {
            int together = 0;
            for (int place = Math.max(0, from); place <= to && place < PLACES; place++) {
                together += brightAt(place, nightNow);
            }
            return together;
        }

        /** What a LIGHT would add to a stretch of PLACES if it stood in a given one. */
        int shareAlong(int k, int stand, int from, int to) {
            if (!isLit(k)) {
                return 0;
            }
            int glow = glowOf(k, nightNow);
            int together = 0;
            for (int place = Math.max(0, from); place <= to && place < PLACES; place++) {
                together += faded(glow, stand, place);
            }
            return together;
        }

        int balanceOf(int one) {
            int balance = 100;
            for (int k = 0; k < size; k++) {
                if (isOwing(k) && owerOf(k) == one) {
                    balance++;
                }
                if (isOwing(k) && creditorOf(k) == one) {
                    balance--;
                }
            }
            return balance;
        }

        void passNight() {
            write(PASSED, 0, 0);
            nightNow++;
        }

        void putOut(int k) {
            if (has(k)) {
                write(ANSWERED, k, 0);
                litBits &= ~(1 << k);
            }
        }

        void lightAgain(int k) {
            if (has(k)) {
                write(LIT_AGAIN, k, 0);
                litBits |= 1 << k;
            }
        }

        void carryTo(int k, int place) {
            if (has(k)) {
                write(CARRIED, k, places[k]);
                places[k] = place;
            }
        }

        void doByLot(long lot) {
            if (size <= 0 || lot < 0) {
                return;
            }
            int k = (int) (lot / 8 % size);
            if (lot % 4 == 0 && nightNow < NIGHTS) {
                passNight();
            } else if (lot % 4 == 1) {
                carryTo(k, (int) (lot / 64 % PLACES));
            } else if (isLit(k)) {
                putOut(k);
            } else {
                lightAgain(k);
            }
        }

        /** A DEED as one int: what was done, to which LIGHT, and the PLACE it was carried from. */
        private void write(int what, int k, int before) {
            if (done < DEEDS) {
                deeds[done] = what + 4 * (k + LIGHTS * before);
                done++;
            }
        }

        void takeBackFrom(int n) {
            while (done > n && done > 0) {
                done--;
                takeBack(deeds[done]);
            }
        }

        private void takeBack(int deed) {
            int k = deed / 4 % LIGHTS;
            switch (deed % 4) {
                case PASSED:
                    nightNow--;
                    break;
                case ANSWERED:
                    litBits |= 1 << k;
                    break;
                case LIT_AGAIN:
                    litBits &= ~(1 << k);
                    break;
                default:
                    if (has(k)) {
                        places[k] = deed / 4 / LIGHTS;
                    }
            }
        }
    }

    /** Ways by all PLACES; a way is one int, its brightness above its PLACES on the road, so that the least is best. */
    private static final class Ways {
        private static final int ALL = 1 << PLACES;
        private static final int CHANGE = 3 * ALL;

        static int darkest(Bank bank) {
            int low = 0;
            int high = 0;
            for (int place = 0; place < PLACES; place++) {
                int bright = bank.brightAt(place, bank.thisNight());
                // changing ahead of the first PLACE never pays, as both begin alike
                int toLow = Math.min(low, high + CHANGE) + bright * ALL;
                int toHigh = Math.min(high, low + CHANGE) + bright / 2 * ALL + (1 << place);
                low = toLow;
                high = toHigh;
            }
            return Math.min(low, high);
        }

        static int brightness(int way) {
            return way / ALL;
        }

        static int placesOnRoad(int way) {
            return way % ALL;
        }
    }

    /** Sets of LIGHTS as bits, and what each set's LIGHTS come to together. */
    private static final class Sets {
        private final int[] weights = new int[LIGHTS];
        private final int[] sums = new int[1 << LIGHTS];

        /** How many sets there are, none among them. */
        private static int setsOf(Bank bank) {
            return 1 << Math.min(bank.size(), LIGHTS);
        }

        private static boolean isWithin(int set, int wider) {
            return (set & ~wider) == 0;
        }

        private void sumUp() {
            sums[0] = 0;
            for (int k = 0; k < LIGHTS; k++) {
                int own = 1 << k;
                for (int set = 0; set < own; set++) {
                    sums[set + own] = sums[set] + weights[k];
                }
            }
        }

        private void sumGlow(Bank bank, int place) {
            for (int k = 0; k < LIGHTS; k++) {
                weights[k] = bank.has(k) ? bank.glowAt(k, place, bank.thisNight()) : 0;
            }
            sumUp();
        }

        /** Five bits for each of PEOPLE hold 8 LIGHTS either way, so a sum is 0 for RINGS alone. */
        private int sumDebts(Bank bank) {
            int owing = 0;
            for (int k = 0; k < LIGHTS; k++) {
                weights[k] = 0;
                if (bank.isOwing(k)) {
                    weights[k] = (1 << 5 * bank.owerOf(k)) - (1 << 5 * bank.creditorOf(k));
                    owing |= 1 << k;
                }
            }
            sumUp();
            return owing;
        }

        int largestRing(Bank bank) {
            int owing = sumDebts(bank);
            int best = 0;
            for (int set = 0; set < setsOf(bank); set++) {
                if (isWithin(set, owing) && sums[set] == 0 && Integer.bitCount(set) > Integer.bitCount(best)) {
                    best = set;
                }
            }
            return best;
        }

        int ringsWith(Bank bank, int k) {
            int owing = sumDebts(bank);
            int many = 0;
            for (int set = 0; set < setsOf(bank); set++) {
                if (isWithin(set, owing) && sums[set] == 0 && (set >> k & 1) == 1) {
                    many++;
                }
            }
            return many;
        }

        /** 0: none. */
        int smallestRingWith(Bank bank, int k) {
            int owing = sumDebts(bank);
            int best = 0;
            for (int set = 0; set < setsOf(bank); set++) {
                boolean fewer = best == 0 || Integer.bitCount(set) < Integer.bitCount(best);
                if (fewer && isWithin(set, owing) && sums[set] == 0 && (set >> k & 1) == 1) {
                    best = set;
                }
            }
            return best;
        }

        int fewestToAnswer(Bank bank, int place, int v) {
            sumGlow(bank, place);
            int lit = bank.litSet();
            int whole = bank.brightAt(place, bank.thisNight());
            int best = lit;
            for (int set = 0; set < setsOf(bank); set++) {
                boolean fewer = Integer.bitCount(set) < Integer.bitCount(best);
                if (fewer && isWithin(set, lit) && whole - sums[set] <= v) {
                    best = set;
                }
            }
            return best;
        }

        /** Backwards from the last turn; each looks alone at sets that the turns ahead of it can lead to. */
        int afterTurns(Bank bank, int place, int turns) {
            sumGlow(bank, place);
            int lit = bank.litSet();
            int all = setsOf(bank);
            for (int turn = Math.min(turns, TURNS) - 1; turn >= 0; turn--) {
                if (turn % 2 == 0) {
                    letOneAnswer(all, lit, turn);
                } else {
                    letOneLight(all, lit, turn);
                }
            }
            return lit >= 0 && lit < sums.length ? sums[lit] : 0;
        }

        /** From the largest set down, as each looks at smaller ones as they were. */
        private void letOneAnswer(int all, int lit, int turn) {
            for (int set = all - 1; set >= 0; set--) {
                if (Integer.bitCount(set ^ lit) <= turn) {
                    for (int own = 1; own < all; own += own) {
                        if ((set & own) != 0) {
                            sums[set] = Math.min(sums[set], sums[set - own]);
                        }
                    }
                }
            }
        }

        /** From the smallest set up, as each looks at larger ones as they were. */
        private void letOneLight(int all, int lit, int turn) {
            for (int set = 0; set < all; set++) {
                if (Integer.bitCount(set ^ lit) <= turn) {
                    for (int own = 1; own < all; own += own) {
                        if ((set & own) == 0) {
                            sums[set] = Math.max(sums[set], sums[set + own]);
                        }
                    }
                }
            }
        }

        /** In how many of 12 to the number of lit LIGHTS it is as bright as v or less. */
        long waysToBeDark(Bank bank, int place, int v, int p) {
            sumGlow(bank, place);
            int lit = bank.litSet();
            long ways = 0;
            for (int set = 0; set < setsOf(bank); set++) {
                if (isWithin(set, lit) && sums[set] <= v) {
                    int out = Integer.bitCount(lit - set);
                    ways += power(p, out) * power(TWELVE - p, Integer.bitCount(set));
                }
            }
            return ways;
        }

        static long power(int base, int exponent) {
            long power = 1;
            for (int i = 0; i < exponent && i < LIGHTS; i++) {
                power *= base;
            }
            return power;
        }
    }

    /** Chains of those who owe those who owe. */
    private static final class Chains {
        private final int[] steps = new int[PEOPLE];

        /** By how few LIGHTS one owes another one; NONE: by none. */
        int shortest(Bank bank, int from, int to) {
            for (int one = 0; one < PEOPLE; one++) {
                steps[one] = one == to ? 0 : NONE;
            }
            for (int round = 1; round < PEOPLE; round++) {
                for (int k = 0; k < bank.size(); k++) {
                    int ower = bank.owerOf(k);
                    if (bank.isOwing(k) && isPerson(ower) && steps[ower] == NONE
                            && stepsOf(bank.creditorOf(k)) == round - 1) {
                        steps[ower] = round;
                    }
                }
            }
            return stepsOf(from);
        }

        private int stepsOf(int one) {
            return isPerson(one) ? steps[one] : NONE;
        }

        /** By the steps that were just found: the lowest LIGHT that leads nearer is always the one to take. */
        void write(Bank bank, int from, Strip row) {
            row.renew(stepsOf(from), 0);
            int one = from;
            for (int i = 0; i < row.size(); i++) {
                int k = lowestNearer(bank, one);
                row.set(i, k);
                one = bank.creditorOf(k);
            }
        }

        private int lowestNearer(Bank bank, int one) {
            for (int k = 0; k < bank.size(); k++) {
                if (bank.isOwing(k) && bank.owerOf(k) == one
                        && stepsOf(bank.creditorOf(k)) == stepsOf(one) - 1) {
                    return k;
                }
            }
            return NONE;
        }
    }

    /** What can be told of a LIGHT by how it glowed, and by how often PEOPLE owe. */
    private static final class Looks {
        private static final int LAST_NIGHT = 20;

        /** MOST_NIGHT and MOST_GLOW are the same, so both numbers of a pair have one bound. */
        static boolean arePairs(Strip looks) {
            for (int i = 0; i < looks.size(); i++) {
                if (looks.get(i) < 0 || looks.get(i) > MOST_GLOW) {
                    return false;
                }
            }
            return true;
        }

        static boolean areTold(Strip told) {
            for (int i = 0; i < told.size(); i++) {
                if (told.get(i) != NONE && (told.get(i) < 0 || told.get(i) > MOST_TOLD)) {
                    return false;
                }
            }
            return true;
        }

        private static boolean fit(int kind, int first, Strip looks) {
            for (int i = 0; i + 1 < looks.size(); i += 2) {
                if (Kinds.glow(kind, first, looks.get(i)) != looks.get(i + 1)) {
                    return false;
                }
            }
            return true;
        }

        static int fittingFirsts(int kind, Strip looks) {
            int bits = 0;
            for (int first = 0; first < FIGURES; first++) {
                if (fit(kind, first, looks)) {
                    bits |= 1 << first;
                }
            }
            return bits;
        }

        static int fittingKinds(int first, Strip looks) {
            int bits = 0;
            for (int kind = 0; kind < KINDS; kind++) {
                if (fit(kind, first, looks)) {
                    bits |= 1 << kind;
                }
            }
            return bits;
        }

        static int tellingNight(int kinds, int first) {
            int best = 0;
            int least = largestPart(kinds, first, 0);
            for (int night = 1; night <= LAST_NIGHT; night++) {
                int part = largestPart(kinds, first, night);
                if (part < least) {
                    least = part;
                    best = night;
                }
            }
            return best;
        }

        /** The most KINDS of a set that glow alike in a NIGHT. */
        static int largestPart(int kinds, int first, int night) {
            int largest = 0;
            for (int kind = 0; kind < KINDS; kind++) {
                if ((kinds >> kind & 1) == 1) {
                    largest = Math.max(largest, howManyGlow(kinds, first, night, Kinds.glow(kind, first, night)));
                }
            }
            return largest;
        }

        private static int howManyGlow(int kinds, int first, int night, int glow) {
            int many = 0;
            for (int kind = 0; kind < KINDS; kind++) {
                if ((kinds >> kind & 1) == 1 && Kinds.glow(kind, first, night) == glow) {
                    many++;
                }
            }
            return many;
        }

        static int fittingOwers(Bank bank, int k, Strip told) {
            int bits = 0;
            for (int one = 0; one < PEOPLE; one++) {
                if (one != bank.creditorOf(k) && fitsOwer(bank, k, one, told)) {
                    bits |= 1 << one;
                }
            }
            return bits;
        }

        private static boolean fitsOwer(Bank bank, int k, int ower, Strip told) {
            int weight = bank.isOwing(k) ? 1 : 0;
            for (int one = 0; one < PEOPLE; one++) {
                int balance = bank.balanceOf(one);
                if (one == bank.owerOf(k)) {
                    balance -= weight;
                }
                if (one == ower) {
                    balance += weight;
                }
                if (told.get(one) != NONE && told.get(one) != balance) {
                    return false;
                }
            }
            return true;
        }
    }
}
