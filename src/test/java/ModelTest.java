import java.lang.reflect.Method;
import java.util.Arrays;

/** All promises: runs of calls, drawn by a counter, on the program and on Model, with the same answers. */
final class ModelTest {
    /** A run ends ahead of 512 calls, as what later ones answer is free; one step of it takes some 70 at most. */
    private static final int RUNS = 5000, CALLS = 430;

    /** Each call with the least and the most that its numbers can be by the document; a LIGHT is 0 .. 7. */
    private static final String[] TABLE = {
        "row 0 5 0 40", "lay 0 5 0 9 -9 110", "at 0 5 0 9", "tear 0 5", "copy 0 5 0 6 0 5 0 6 0 6", "mean 0 5",
        "text 0 3 0 60", "put 0 3 0 40 -300 300", "fault 0 3", "bank 0 3", "light 0 7 0 6", "mark 0 7 1 5",
        "glows 0 7 0 99", "night", "answer 0 7", "relight 0 7", "carry 0 7 0 9", "undo 0 40", "keep 0 2",
        "on 0 2", "bright 0 9", "along 0 9 0 9", "when 0 9 0 200", "stow 0 7 0 9 0 9", "dark 1 10", "road",
        "owes 0 5", "ring", "rings 0 7", "least 0 7", "chain 0 5 0 5 0 5", "dim 0 9 0 99", "firsts 0 7 0 5",
        "kinds 0 7 0 5", "test 0 7 0 5", "whose 0 7 0 5", "duel 0 9 0 4", "odds 0 9 0 99 0 12", "mid 0 9 0 12",
        "lots 1 20 1 2147483646", "count 0 9", "findings 1 5"};
    private static final String[] NAMES = new String[TABLE.length];
    private static final int[][] BOUNDS = new int[TABLE.length][];

    private static final Due due = new Due();
    private static final Method[] OF_PROGRAM = new Method[NAMES.length];
    private static final Method[] OF_MODEL = new Method[NAMES.length];
    private static final int[] answered = new int[NAMES.length];
    private static long state = 20260101;

    private final GlowDebts program = new GlowDebts();
    private final Model model = new Model();
    private int calls = 0;

    public static void main(String[] args) throws ReflectiveOperationException {
        for (int which = 0; which < TABLE.length; which++) {
            String[] words = TABLE[which].split(" ");
            NAMES[which] = words[0];
            BOUNDS[which] = Arrays.stream(words).skip(1).mapToInt(Integer::parseInt).toArray();
            OF_PROGRAM[which] = find(GlowDebts.class, NAMES[which], BOUNDS[which].length / 2);
            OF_MODEL[which] = find(Model.class, NAMES[which], BOUNDS[which].length / 2);
        }
        for (int run = 0; run < RUNS; run++) {
            new ModelTest().run("run " + run);
        }
        for (int which = 0; which < NAMES.length; which++) {
            due.is(NAMES[which] + " was answered, not refused, often enough", answered[which] > 50 ? 1 : 0, 1);
        }
        due.end("ModelTest");
    }

    /** 0 .. n - 1. */
    private static int draw(int n) {
        state = state * 6364136223846793005L + 1442695040888963407L;
        return (int) ((state >>> 33) % n);
    }

    private static int between(int least, int most) {
        int luck = draw(100);
        if (luck == 0) {
            return draw(2) == 0 ? Integer.MIN_VALUE : Integer.MAX_VALUE;
        }
        if (luck < 5) {
            return draw(2) == 0 ? least - 1 : most + 1;
        }
        if (luck < 15 && most > 9) {
            return draw(2) == 0 ? least : most;
        }
        return least + (most - least == Integer.MAX_VALUE ? draw(Integer.MAX_VALUE) : draw(most - least + 1));
    }

    private void run(String where) throws ReflectiveOperationException {
        write(words());
        call(where, Arrays.asList(NAMES).indexOf("bank"), 0);
        for (int i = 0; calls < CALLS; i++) {
            int luck = draw(100);
            if (luck == 0) {
                write(words());
            } else if (luck < 8) {
                layPairs();
            } else if (luck < 11) {
                layOwes();
            } else {
                int which = draw(NAMES.length);
                int[] bounds = BOUNDS[which];
                int[] numbers = new int[bounds.length / 2];
                for (int n = 0; n < numbers.length; n++) {
                    numbers[n] = between(bounds[2 * n], bounds[2 * n + 1]);
                }
                call(where + ", call " + i, which, numbers);
            }
        }
    }

    private void call(String where, int which, int... numbers) throws ReflectiveOperationException {
        if (NAMES[which].equals("bank") && numbers[0] == 0 && draw(3) != 0) {
            write(words());
        }
        int got = answer(program, OF_PROGRAM[which], numbers);
        int want = answer(model, OF_MODEL[which], numbers);
        calls += 6;
        String what = where + ": " + NAMES[which] + Arrays.toString(numbers);
        answered[which] += want >= 0 ? 1 : 0;
        due.is(what, got, want);
        due.is(what + ", asked()", program.asked(), model.asked);
        due.is(what + ", upper()", program.upper(), model.upper);
        due.is(what + ", lower()", program.lower(), model.lower);
        due.is(what + ", finding()", program.finding(), model.finding());
        due.is(what + ", digest()", program.digest(), model.digest());
    }

    private void write(String words) {
        program.text(0, words.length());
        model.text(0, words.length());
        calls += words.length() + 2;
        for (int i = 0; i < words.length(); i++) {
            due.is("put", program.put(0, i, words.charAt(i)), model.put(0, i, words.charAt(i)));
        }
        due.is("fault of '" + words + "'", program.fault(0), model.fault(0));
    }

    /** Mostly a bank of few people, so that there are rings. */
    private static String words() {
        StringBuilder words = new StringBuilder();
        int lights = 1 + draw(8);
        int people = 2 + draw(5);
        for (int k = 0; k < lights; k++) {
            int ower = draw(people);
            int creditor = (ower + 1 + draw(people - 1)) % people;
            words.append(draw(2) == 0 ? 'l' : "ljdfom".charAt(draw(6))).append(ower).append(creditor)
                    .append(draw(10)).append(draw(10)).append("  ", 0, draw(3));
        }
        if (draw(6) == 0) {
            words.setCharAt(draw(words.length()), " l059x:/".charAt(draw(8)));
        }
        if (draw(8) == 0) {
            words.setLength(draw(words.length() + 1));
        }
        return words.toString();
    }

    private void lay(int r, int... numbers) {
        program.row(r, numbers.length);
        model.row(r, numbers.length);
        calls += numbers.length + 1;
        for (int i = 0; i < numbers.length; i++) {
            due.is("lay", program.lay(r, i, numbers[i]), model.lay(r, i, numbers[i]));
        }
    }

    /** Mostly as some KIND would glow. */
    private void layPairs() {
        int kind = draw(6);
        int first = draw(10);
        int[] pairs = new int[2 * draw(3)];
        for (int i = 0; i < pairs.length; i += 2) {
            pairs[i] = draw(12);
            pairs[i + 1] = Model.glow(kind, first, pairs[i]) + (draw(20) == 0 ? 1 : 0);
        }
        lay(draw(6), pairs);
    }

    /** Mostly as PEOPLE owe if one debt were another's. */
    private void layOwes() {
        int[] told = new int[6];
        int off = draw(6);
        for (int one = 0; one < 6; one++) {
            told[one] = draw(3) == 0 ? model.owes(one) + (one == off ? 1 - draw(3) : 0) : GlowDebts.NONE;
        }
        lay(draw(6), told);
    }

    private static Method find(Class<?> of, String name, int numbers) throws ReflectiveOperationException {
        Class<?>[] ints = new Class<?>[numbers];
        Arrays.fill(ints, int.class);
        return of.getDeclaredMethod(name, ints);
    }

    /** Calls by name, with as many numbers as the call takes. */
    private static int answer(Object of, Method method, int[] numbers) throws ReflectiveOperationException {
        Object[] some = new Object[method.getParameterCount()];
        for (int i = 0; i < some.length; i++) {
            some[i] = numbers[i];
        }
        return (Integer) method.invoke(of, some);
    }
}
