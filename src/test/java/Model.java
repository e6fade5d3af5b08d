import java.math.BigInteger;
import java.util.ArrayList;
import java.util.HashMap;
import java.util.List;
import java.util.Map;
import java.util.TreeMap;

/**
 * The document once more, as slowly and plainly as can be: every state is kept whole, every way is tried.
 * ModelTest holds the program against it.
 */
final class Model {
    private static final int BAD = -1, FULL = -2, FINDING = -3, STATE = -4, NONE = -9;
    private static final int NOTHING = 1, BEYOND = 2, UNLIKE = 3, NOUGHT = 4, SIZE = 5;
    private static final String LETTERS = "ljdfom";
    private static final String TWO = "(?!00|11|22|33|44|55)[0-5][0-5]";
    private static final String ITEM = "[ljdfom]" + TWO + "[0-9][0-9]";
    private static final String BROKEN = "[ljdfom]([0-5]|" + TWO + "[0-9]?)?";

    private record Light(int kind, int ower, int creditor, int place, int first, boolean lit) {
        Light at(int other) {
            return new Light(kind, ower, creditor, other, first, lit);
        }

        Light lit(boolean whether) {
            return new Light(kind, ower, creditor, place, first, whether);
        }

        Light of(int other) {
            return new Light(kind, other, creditor, place, first, lit);
        }

        boolean isDew() {
            return kind == 2 || kind == 4;
        }

        boolean isForged() {
            return kind == 3 || kind == 5;
        }

        boolean owing() {
            return lit && !isForged();
        }
    }

    private record World(List<Light> lights, int night) {
        World with(int k, Light light) {
            List<Light> changed = new ArrayList<>(lights);
            changed.set(k, light);
            return new World(changed, night);
        }

        int bright(int place) {
            return bright(place, night);
        }

        int bright(int place, int then) {
            int sum = 0;
            for (Light light : lights) {
                if (light.lit) {
                    sum += Math.max(0, glow(light.kind, light.first, then) - 2 * Math.abs(place - light.place));
                }
            }
            return sum;
        }

        int along(int from, int to) {
            int sum = 0;
            for (int place = from; place <= to; place++) {
                sum += bright(place);
            }
            return sum;
        }

        int glowing() {
            return lights.stream().filter(Light::lit).mapToInt(l -> glow(l.kind, l.first, night)).sum();
        }

        int owes(int one) {
            int owes = 100;
            for (Light light : lights) {
                if (light.owing()) {
                    owes += (light.ower == one ? 1 : 0) - (light.creditor == one ? 1 : 0);
                }
            }
            return owes;
        }

        int litSet() {
            int bits = 0;
            for (int k = 0; k < lights.size(); k++) {
                bits |= lights.get(k).lit ? 1 << k : 0;
            }
            return bits;
        }
    }

    private final List<List<Integer>> rows = missing(6);
    private final List<List<Integer>> texts = missing(4);
    /** The World behind each DEED, that at first ahead of them. */
    private List<World> history = List.of(new World(List.of(), 0));
    private final List<List<World>> kept = missing(3);
    private final int[] found = new int[6];
    private int latest = 0;
    int asked = 0;
    long upper = 0;
    long lower = 1;

    private static <T> List<T> missing(int n) {
        List<T> list = new ArrayList<>();
        for (int i = 0; i < n; i++) {
            list.add(null);
        }
        return list;
    }

    private World now() {
        return history.get(history.size() - 1);
    }

    private List<Light> lights() {
        return now().lights;
    }

    private int deeds() {
        return history.size() - 1;
    }

    private void become(World next) {
        history = new ArrayList<>(history);
        history.add(next);
    }

    private int refuse(int finding) {
        found[finding]++;
        latest = finding;
        return FINDING;
    }

    private static boolean out(int v, int from, int to) {
        return v < from || v > to;
    }

    private boolean noLight(int k) {
        return out(k, 0, lights().size() - 1);
    }

    static int glow(int kind, int first, int night) {
        if (kind == 0) {
            return first;
        }
        if (kind == 1) {
            return first - first / 2;
        }
        if (kind == 2 || kind == 4) {
            int glow = first;
            for (int n = 0; n < night && glow < 20; n++) {
                glow++;
            }
            return kind == 4 && night >= 5 ? glow >> 1 : glow;
        }
        int glow = 9 - first;
        if ((night & 1) == 1) {
            glow++;
        }
        return kind == 5 && glow < 5 ? 5 : glow;
    }

    int row(int r, int n) {
        return anew(rows, r, n, 40, 0);
    }

    int text(int t, int n) {
        return anew(texts, t, n, 60, 32);
    }

    private int anew(List<List<Integer>> all, int r, int n, int most, int filling) {
        if (out(r, 0, all.size() - 1) || n > most) {
            return BAD;
        }
        if (n < 0) {
            return refuse(SIZE);
        }
        List<Integer> list = new ArrayList<>();
        while (list.size() < n) {
            list.add(filling);
        }
        all.set(r, list);
        return n;
    }

    int lay(int r, int i, int v) {
        int was = at(r, i);
        if (was == 1) {
            rows.get(r).set(i, v);
        }
        return was;
    }

    int at(int r, int i) {
        if (out(r, 0, 5)) {
            return BAD;
        }
        if (rows.get(r) == null) {
            return refuse(NOTHING);
        }
        if (out(i, 0, rows.get(r).size() - 1)) {
            return refuse(BEYOND);
        }
        asked = rows.get(r).get(i);
        return 1;
    }

    int tear(int r) {
        if (out(r, 0, 5)) {
            return BAD;
        }
        if (rows.get(r) == null) {
            return refuse(NOTHING);
        }
        rows.set(r, null);
        return 1;
    }

    int copy(int r, int i, int to, int j, int n) {
        if (out(r, 0, 5) || out(to, 0, 5)) {
            return BAD;
        }
        if (n < 0) {
            return refuse(SIZE);
        }
        if (rows.get(r) == null || rows.get(to) == null) {
            return refuse(NOTHING);
        }
        if (i < 0 || j < 0 || (long) i + n > rows.get(r).size() || (long) j + n > rows.get(to).size()) {
            return refuse(BEYOND);
        }
        List<Integer> ahead = new ArrayList<>(rows.get(r).subList(i, i + n));
        for (int p = 0; p < n; p++) {
            rows.get(to).set(j + p, ahead.get(p));
        }
        return 1;
    }

    int mean(int r) {
        if (out(r, 0, 5)) {
            return BAD;
        }
        if (rows.get(r) == null) {
            return refuse(NOTHING);
        }
        if (rows.get(r).isEmpty()) {
            return refuse(NOUGHT);
        }
        BigInteger sum = BigInteger.ZERO;
        for (int v : rows.get(r)) {
            sum = sum.add(BigInteger.valueOf(v));
        }
        asked = sum.divide(BigInteger.valueOf(rows.get(r).size())).intValueExact();
        return 1;
    }

    int put(int t, int i, int v) {
        if (out(t, 0, 3)) {
            return BAD;
        }
        if (texts.get(t) == null) {
            return refuse(NOTHING);
        }
        if (out(i, 0, texts.get(t).size() - 1)) {
            return refuse(BEYOND);
        }
        return texts.get(t).set(i, Math.floorMod(v + 128L, 256) - 128) + 1000;
    }

    private String words(int t) {
        StringBuilder words = new StringBuilder();
        for (int v : texts.get(t)) {
            words.append((char) (v & 255));
        }
        return words.toString();
    }

    /** The longest beginning that a text shares with some BANK tells the place. */
    private static int faultOf(String words) {
        if (words.matches(" *(" + ITEM + " *){1,8}")) {
            return NONE;
        }
        int size = words.length();
        while (!words.substring(0, size).matches(" *(" + ITEM + " *){0,8}| *(" + ITEM + " *){0,7}" + BROKEN)) {
            size--;
        }
        return size;
    }

    int fault(int t) {
        if (out(t, 0, 3)) {
            return BAD;
        }
        return texts.get(t) == null ? refuse(NOTHING) : faultOf(words(t));
    }

    int bank(int t) {
        if (out(t, 0, 3)) {
            return BAD;
        }
        if (texts.get(t) == null) {
            return refuse(NOTHING);
        }
        if (faultOf(words(t)) != NONE) {
            return STATE;
        }
        String items = words(t).replace(" ", "");
        List<Light> lights = new ArrayList<>();
        for (int i = 0; i < items.length(); i += 5) {
            lights.add(new Light(LETTERS.indexOf(items.charAt(i)), items.charAt(i + 1) - '0',
                    items.charAt(i + 2) - '0', items.charAt(i + 3) - '0', items.charAt(i + 4) - '0', true));
        }
        history = List.of(new World(lights, 0));
        for (int k = 0; k < 3; k++) {
            kept.set(k, null);
        }
        return lights.size();
    }

    private int part(int k, int what) {
        Light light = lights().get(k);
        int[] parts = {light.kind, light.ower, light.creditor, light.place, light.first, light.lit ? 1 : 0,
            glow(light.kind, light.first, now().night)};
        return parts[what];
    }

    int light(int k, int what) {
        if (noLight(k) || out(what, 0, 6)) {
            return BAD;
        }
        asked = part(k, what);
        return 1;
    }

    int mark(int k, int kind) {
        if (noLight(k) || out(kind, 1, 5)) {
            return BAD;
        }
        Light light = lights().get(k);
        int own = part(k, 6);
        int night = now().night;
        if (kind == 1 && light.kind == 1) {
            return light.first - own;
        }
        if (kind == 2 && light.isDew()) {
            return own - light.first + 100;
        }
        if (kind == 3 && light.isForged()) {
            return light.first - own + 100;
        }
        if (kind == 4 && light.kind == 4) {
            return glow(2, light.first, night) - own;
        }
        if (kind == 5 && light.kind == 5) {
            return own - glow(3, light.first, night);
        }
        return refuse(UNLIKE);
    }

    int glows(int k, int night) {
        return noLight(k) || out(night, 0, 99) ? BAD : glow(lights().get(k).kind, lights().get(k).first, night);
    }

    int night() {
        if (lights().isEmpty() || now().night == 40) {
            return STATE;
        }
        if (deeds() == 40) {
            return FULL;
        }
        become(new World(lights(), now().night + 1));
        return now().glowing();
    }

    int answer(int k) {
        return light(k, true);
    }

    int relight(int k) {
        return light(k, false);
    }

    private int light(int k, boolean was) {
        if (noLight(k)) {
            return BAD;
        }
        if (lights().get(k).lit != was) {
            return STATE;
        }
        if (deeds() == 40) {
            return FULL;
        }
        become(now().with(k, lights().get(k).lit(!was)));
        return part(k, 6);
    }

    int carry(int k, int place) {
        if (noLight(k) || out(place, 0, 9)) {
            return BAD;
        }
        int before = lights().get(k).place;
        if (before == place) {
            return STATE;
        }
        if (deeds() == 40) {
            return FULL;
        }
        become(now().with(k, lights().get(k).at(place)));
        return before;
    }

    int undo(int n) {
        if (out(n, 0, deeds())) {
            return BAD;
        }
        int undone = deeds() - n;
        history = history.subList(0, n + 1);
        return undone;
    }

    int keep(int k) {
        if (out(k, 0, 2)) {
            return BAD;
        }
        if (lights().isEmpty()) {
            return STATE;
        }
        kept.set(k, history);
        return deeds();
    }

    int on(int k) {
        if (out(k, 0, 2)) {
            return BAD;
        }
        if (kept.get(k) == null) {
            return refuse(NOTHING);
        }
        history = kept.get(k);
        return deeds();
    }

    int bright(int place) {
        return out(place, 0, 9) ? BAD : now().bright(place);
    }

    int along(int from, int to) {
        return out(from, 0, 9) || out(to, from, 9) ? BAD : now().along(from, to);
    }

    int when(int place, int v) {
        if (out(place, 0, 9) || out(v, 0, 200)) {
            return BAD;
        }
        for (int n = 0; n <= 40; n++) {
            if (now().bright(place, now().night + n) >= v) {
                asked = now().bright(place, now().night + n);
                return n;
            }
        }
        return NONE;
    }

    int stow(int k, int from, int to) {
        if (noLight(k) || out(from, 0, 9) || out(to, from, 9)) {
            return BAD;
        }
        int[] bright = new int[10];
        for (int place = 0; place < 10; place++) {
            bright[place] = now().with(k, lights().get(k).at(place)).along(from, to);
        }
        return firstLeast(bright);
    }

    private int firstLeast(int[] bright) {
        int best = 0;
        for (int i = 0; i < bright.length; i++) {
            if (bright[i] < bright[best]) {
                best = i;
            }
        }
        asked = bright[best];
        return best;
    }

    int dark(int n) {
        if (out(n, 1, 10)) {
            return BAD;
        }
        if (lights().isEmpty()) {
            return STATE;
        }
        int[] bright = new int[11 - n];
        for (int from = 0; from < bright.length; from++) {
            bright[from] = now().along(from, from + n - 1);
        }
        return firstLeast(bright);
    }

    int road() {
        if (lights().isEmpty()) {
            return STATE;
        }
        int least = Integer.MAX_VALUE;
        for (int way = 0; way < 1024; way++) {
            int cost = 0;
            for (int place = 0; place < 10; place++) {
                boolean road = (way & 1 << place) != 0;
                cost += road ? now().bright(place) / 2 : now().bright(place);
                cost += place > 0 && road != ((way & 1 << place - 1) != 0) ? 3 : 0;
            }
            if (cost < least) {
                least = cost;
                asked = way;
            }
        }
        return least;
    }

    int owes(int one) {
        return out(one, 0, 5) ? BAD : now().owes(one);
    }

    private boolean isRing(int set) {
        Map<Integer, Integer> balance = new HashMap<>();
        for (int k = 0; k < lights().size(); k++) {
            if ((set & 1 << k) != 0) {
                if (!lights().get(k).owing()) {
                    return false;
                }
                balance.merge(lights().get(k).ower, 1, Integer::sum);
                balance.merge(lights().get(k).creditor, -1, Integer::sum);
            }
        }
        return balance.values().stream().allMatch(b -> b == 0);
    }

    private List<Integer> allRings() {
        List<Integer> all = new ArrayList<>();
        for (int set = 0; set < 1 << lights().size(); set++) {
            if (isRing(set)) {
                all.add(set);
            }
        }
        return all;
    }

    int ring() {
        if (lights().isEmpty()) {
            return STATE;
        }
        int most = allRings().stream().mapToInt(Integer::bitCount).max().getAsInt();
        asked = allRings().stream().filter(s -> Integer.bitCount(s) == most).findFirst().get();
        return most;
    }

    int rings(int k) {
        return noLight(k) ? BAD : (int) allRings().stream().filter(s -> (s & 1 << k) != 0).count();
    }

    int least(int k) {
        if (noLight(k)) {
            return BAD;
        }
        List<Integer> with = allRings().stream().filter(s -> (s & 1 << k) != 0).toList();
        if (with.isEmpty()) {
            return NONE;
        }
        int few = with.stream().mapToInt(Integer::bitCount).min().getAsInt();
        asked = with.stream().filter(s -> Integer.bitCount(s) == few).findFirst().get();
        return few;
    }

    int chain(int from, int to, int r) {
        if (out(from, 0, 5) || out(to, 0, 5) || out(r, 0, 5)) {
            return BAD;
        }
        for (int size = 0; size <= 6; size++) {
            List<Integer> chain = chainOf(from, to, size);
            if (chain != null) {
                rows.set(r, chain);
                return size;
            }
        }
        return NONE;
    }

    /** The first of the chains of so many, as words in a dictionary; null: none. */
    private List<Integer> chainOf(int from, int to, int size) {
        if (size == 0) {
            return from == to ? new ArrayList<>() : null;
        }
        for (int k = 0; k < lights().size(); k++) {
            if (lights().get(k).owing() && lights().get(k).ower == from) {
                List<Integer> rest = chainOf(lights().get(k).creditor, to, size - 1);
                if (rest != null) {
                    rest.add(0, k);
                    return rest;
                }
            }
        }
        return null;
    }

    private World without(World world, int set) {
        World left = world;
        for (int k = 0; k < lights().size(); k++) {
            if ((set & 1 << k) != 0) {
                left = left.with(k, left.lights.get(k).lit(false));
            }
        }
        return left;
    }

    int dim(int place, int v) {
        if (out(place, 0, 9) || out(v, 0, 99)) {
            return BAD;
        }
        for (int few = 0; ; few++) {
            for (int set = 0; set < 256; set++) {
                if (Integer.bitCount(set) == few && (set & now().litSet()) == set
                        && without(now(), set).bright(place) <= v) {
                    asked = set;
                    return few;
                }
            }
        }
    }

    private int refusedLooks(int k, int r) {
        if (noLight(k) || out(r, 0, 5)) {
            return BAD;
        }
        if (rows.get(r) == null) {
            return refuse(NOTHING);
        }
        if ((rows.get(r).size() & 1) == 1) {
            return refuse(SIZE);
        }
        return rows.get(r).stream().anyMatch(v -> out(v, 0, 99)) ? refuse(UNLIKE) : 0;
    }

    private boolean fits(int kind, int first, List<Integer> looks) {
        boolean fits = true;
        for (int i = 0; i < looks.size(); i += 2) {
            fits &= glow(kind, first, looks.get(i)) == looks.get(i + 1);
        }
        return fits;
    }

    int firsts(int k, int r) {
        int refused = refusedLooks(k, r);
        for (int first = 0; refused >= 0 && first < 10; first++) {
            refused += fits(lights().get(k).kind, first, rows.get(r)) ? 1 << first : 0;
        }
        return refused;
    }

    int kinds(int k, int r) {
        int refused = refusedLooks(k, r);
        for (int kind = 0; refused >= 0 && kind < 6; kind++) {
            refused += fits(kind, lights().get(k).first, rows.get(r)) ? 1 << kind : 0;
        }
        return refused;
    }

    int test(int k, int r) {
        int kinds = kinds(k, r);
        if (kinds <= 0) {
            return kinds == 0 ? NONE : kinds;
        }
        int[] parts = new int[21];
        for (int night = 0; night <= 20; night++) {
            Map<Integer, Integer> alike = new TreeMap<>();
            for (int kind = 0; kind < 6; kind++) {
                if ((kinds & 1 << kind) != 0) {
                    alike.merge(glow(kind, lights().get(k).first, night), 1, Integer::sum);
                }
            }
            parts[night] = alike.values().stream().max(Integer::compare).get();
        }
        return firstLeast(parts);
    }

    int whose(int k, int r) {
        if (noLight(k) || out(r, 0, 5)) {
            return BAD;
        }
        List<Integer> told = rows.get(r);
        if (told == null) {
            return refuse(NOTHING);
        }
        if (told.size() != 6) {
            return refuse(SIZE);
        }
        if (told.stream().anyMatch(v -> v != NONE && out(v, 0, 200))) {
            return refuse(UNLIKE);
        }
        int bits = 0;
        for (int ower = 0; ower < 6; ower++) {
            World other = now().with(k, lights().get(k).of(ower));
            boolean fits = ower != lights().get(k).creditor;
            for (int one = 0; one < 6; one++) {
                fits &= told.get(one) == NONE || told.get(one) == other.owes(one);
            }
            bits += fits ? 1 << ower : 0;
        }
        return bits;
    }

    int duel(int place, int n) {
        if (out(place, 0, 9) || out(n, 0, 4)) {
            return BAD;
        }
        return lights().isEmpty() ? STATE : play(now(), place, n, true);
    }

    private int play(World world, int place, int turns, boolean answers) {
        if (turns == 0) {
            return world.bright(place);
        }
        int best = play(world, place, turns - 1, !answers);
        for (int k = 0; k < world.lights.size(); k++) {
            if (world.lights.get(k).lit == answers) {
                int then = play(world.with(k, world.lights.get(k).lit(!answers)), place, turns - 1, !answers);
                best = answers ? Math.min(best, then) : Math.max(best, then);
            }
        }
        return best;
    }

    /** By how much of 12 to the number of lit LIGHTS it is how bright. */
    private Map<Integer, Long> chances(World world, int place, int p, int k) {
        Map<Integer, Long> all = new TreeMap<>();
        if (k == world.lights.size()) {
            all.put(world.bright(place), 1L);
            return all;
        }
        boolean lit = world.lights.get(k).lit;
        long stays = lit ? 12 - p : 1;
        chances(world, place, p, k + 1).forEach((b, c) -> all.merge(b, stays * c, Long::sum));
        if (lit) {
            World out = world.with(k, world.lights.get(k).lit(false));
            chances(out, place, p, k + 1).forEach((b, c) -> all.merge(b, p * c, Long::sum));
        }
        return all;
    }

    private int tell(long above, long below) {
        BigInteger divisor = BigInteger.valueOf(above).gcd(BigInteger.valueOf(below));
        upper = BigInteger.valueOf(above).divide(divisor).longValue();
        lower = BigInteger.valueOf(below).divide(divisor).longValue();
        return 1;
    }

    private int chanceRefused(int place, int v, int p) {
        if (out(place, 0, 9) || out(v, 0, 99) || out(p, 0, 12)) {
            return BAD;
        }
        return lights().isEmpty() ? STATE : 0;
    }

    int odds(int place, int v, int p) {
        int refused = chanceRefused(place, v, p);
        if (refused < 0) {
            return refused;
        }
        long all = 0;
        long some = 0;
        for (Map.Entry<Integer, Long> e : chances(now(), place, p, 0).entrySet()) {
            all += e.getValue();
            some += e.getKey() <= v ? e.getValue() : 0;
        }
        return tell(some, all);
    }

    int mid(int place, int p) {
        int refused = chanceRefused(place, 0, p);
        if (refused < 0) {
            return refused;
        }
        long all = 0;
        long sum = 0;
        for (Map.Entry<Integer, Long> e : chances(now(), place, p, 0).entrySet()) {
            all += e.getValue();
            sum += e.getKey() * e.getValue();
        }
        return tell(sum, all);
    }

    int lots(int n, int seed) {
        if (out(n, 1, 20) || out(seed, 1, 2147483646)) {
            return BAD;
        }
        if (lights().isEmpty()) {
            return STATE;
        }
        if (deeds() + n > 40) {
            return FULL;
        }
        BigInteger lot = BigInteger.valueOf(seed);
        for (int i = 0; i < n; i++) {
            lot = lot.multiply(BigInteger.valueOf(48271)).mod(BigInteger.valueOf(2147483647));
            long v = lot.longValue();
            int k = (int) (v / 8 % lights().size());
            if (v % 4 == 0 && now().night != 40) {
                become(new World(lights(), now().night + 1));
            } else if (v % 4 == 1) {
                become(now().with(k, lights().get(k).at((int) (v / 64 % 10))));
            } else {
                become(now().with(k, lights().get(k).lit(!lights().get(k).lit)));
            }
        }
        return now().glowing();
    }

    int count(int what) {
        switch (what) {
            case 0: return lights().size();
            case 1: return now().night;
            case 2: return deeds();
            case 3: return now().litSet();
            case 4: return now().glowing();
            case 5: return (int) lights().stream().filter(Light::isForged).count();
            case 6: return (int) lights().stream().filter(Light::isDew).count();
            case 7: return there(rows);
            case 8: return there(texts);
            case 9: return there(kept);
            default: return BAD;
        }
    }

    private static <T> int there(List<T> all) {
        return (int) all.stream().filter(one -> one != null).count();
    }

    int finding() {
        return latest;
    }

    int findings(int f) {
        return out(f, 1, 5) ? BAD : found[f];
    }

    long digest() {
        List<Integer> told = new ArrayList<>();
        for (int what = 0; what <= 9; what++) {
            told.add(count(what));
        }
        for (int k = 0; k < lights().size(); k++) {
            for (int what = 0; what <= 6; what++) {
                told.add(part(k, what));
            }
        }
        kept.forEach(one -> told.add(one == null ? -1 : one.size() - 1));
        List<List<Integer>> strips = new ArrayList<>(rows);
        strips.addAll(texts);
        for (List<Integer> strip : strips) {
            told.add(strip == null ? -1 : strip.size());
            told.addAll(strip == null ? List.of() : strip);
        }
        long h = 17;
        for (int v : told) {
            h = 31 * h + v;
        }
        return h;
    }
}
