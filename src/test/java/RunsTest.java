import java.lang.reflect.Method;
import java.lang.reflect.Modifier;
import java.util.ArrayList;
import java.util.Arrays;
import java.util.List;
import java.util.Map;
import java.util.Random;
import java.util.TreeMap;

/** Runs of all calls in turn, by chance: each call on an object and on the Whole model, which must answer alike. */
public final class RunsTest {
    private static final int LONGEST = 512;
    private static final int[] ODD = { Integer.MIN_VALUE, Integer.MAX_VALUE, -1, -2, -3, 9999999, 10000000, 10000, 101, 32, 64 };
    private static final String[] ASKED = { "fault", "about", "holder", "has", "has", "state", "state", "paid", "paid", "level",
        "least", "flat", "unpaid", "wants", "dilutes", "prefers", "votes", "passes", "breaks", "breaks", "part", "part", "chosen",
        "chosen", "steady", "steadies", "close", "release", "sale", "sale", "guess", "guess", "mean", "multiple", "yields", "grant",
        "waive", "rank", "undo", "undo", "feed", "end", "text" };
    private static final Map<String, Method> FACE = methods(ExitFalls.class);
    private static final Map<String, Method> MODEL = methods(Whole.class);

    private final Random chance;
    private final ExitFalls x = new ExitFalls();
    private final Whole whole = new Whole();
    private final List<String> run = new ArrayList<>();

    private RunsTest(long seed) {
        chance = new Random(seed);
    }

    public static void main(String[] args) throws Exception {
        Check.due("the model has the face", MODEL.keySet().containsAll(FACE.keySet()), true);
        Check.due("every call is asked", Arrays.asList(ASKED).containsAll(FACE.keySet()), true);
        int rounds = args.length > 0 ? Integer.parseInt(args[0]) : 100;
        int seed = args.length > 1 ? Integer.parseInt(args[1]) : 0;
        for (int round = 0; round < rounds; round++) {
            new RunsTest(seed * 1000003L + round).go();
        }
        Check.finish();
    }

    private static Map<String, Method> methods(Class<?> of) {
        Map<String, Method> all = new TreeMap<>();
        for (Method m : of.getDeclaredMethods()) {
            if (Modifier.isPublic(m.getModifiers())) {
                all.put(m.getName(), m);
            }
        }
        return all;
    }

    private void go() throws Exception {
        int length = 150 + chance.nextInt(LONGEST - 149);
        if (chance.nextInt(4) > 0) {
            tell(false);
        }
        while (run.size() + 90 < length) {
            if (chance.nextInt(40) == 0) {
                tell(chance.nextInt(3) > 0);
            } else {
                some(ASKED[chance.nextInt(ASKED.length)]);
            }
        }
        for (int i = 0; i < 13; i++) {
            call("undo");
            call("about", chance.nextInt(6));
            call("sale", chance.nextInt(4));
        }
        Check.due("calls of a run", run.size() <= LONGEST, true);
    }

    /** An answer of the object; a boolean counts 1 or 0. */
    private long call(String name, int... numbers) throws Exception {
        Method of = FACE.get(name);
        Object[] values = new Object[numbers.length];
        for (int i = 0; i < numbers.length; i++) {
            boolean isNumber = of.getParameterTypes()[i] == int.class;
            values[i] = isNumber ? (Object) numbers[i] : (Object) (numbers[i] % 2 != 0);
        }
        run.add(name + Arrays.toString(values));
        long got = number(of.invoke(x, values));
        long want = number(MODEL.get(name).invoke(whole, values));
        Check.due(got == want ? name : "the last of " + run, got, want);
        return got;
    }

    private static long number(Object answer) {
        return answer instanceof Boolean is ? is ? 1 : 0 : ((Number) answer).longValue();
    }

    private void tell(boolean spoiled) throws Exception {
        Texts texts = new Texts(chance, chance.nextInt(3));
        byte[] text = texts.text(chance.nextInt(4), chance.nextInt(4), chance.nextInt(7)).getBytes();
        if (spoiled && text.length > 0) {
            text[chance.nextInt(text.length)] = (byte) "acz 09;:\nA{`/\u00e9".charAt(chance.nextInt(14));
        }
        call("end", 0);
        for (int at = 0; at < text.length && at < 700; at += 20) {
            int[] five = new int[5];
            for (int i = 0; i < 20; i++) {
                five[i / 4] = five[i / 4] << 8 | (at + i < text.length ? text[at + i] & 255 : chance.nextInt(256));
            }
            call("feed", five);
        }
        call("end", text.length);
        call("text");
        call("fault", 0);
        call("fault", 1);
    }

    private void some(String name) throws Exception {
        int h = holder();
        int a = amount();
        switch (name) {
            case "undo", "text" -> call(name);
            case "feed" -> call(name, chance.nextInt(), chance.nextInt(), chance.nextInt(), chance.nextInt(), chance.nextInt());
            case "end" -> call(name, odd(whole.about(3) + chance.nextInt(3) - 1));
            case "fault" -> call(name, odd(chance.nextInt(3)));
            case "about" -> call(name, odd(chance.nextInt(7)));
            case "votes" -> call(name, set());
            case "mean" -> call(name, h);
            case "unpaid" -> call(name, a);
            case "sale" -> call(name, odd(chance.nextInt(3) == 0 ? chance.nextInt(11) : chance.nextBoolean() ? 10 + h : 100 + h));
            case "release" -> call(name, odd(released()), chance.nextInt(2));
            case "close" -> call(name, a, odd(chance.nextInt(102)));
            case "guess" -> call(name, a, odd(1 + chance.nextInt(1000)));
            default -> someOfHolders(name, h, a);
        }
    }

    private void someOfHolders(String name, int h, int a) throws Exception {
        int what = odd(chance.nextInt(2));
        int k = odd(chance.nextInt(whole.model.breaks().size() + 2));
        switch (name) {
            case "holder" -> call(name, h, odd(chance.nextInt(12)));
            case "state", "paid", "multiple" -> call(name, h, a);
            case "has", "flat" -> call(name, h, a, what);
            case "level" -> call(name, a, what);
            case "least" -> call(name, h, units(h, a));
            case "wants" -> call(name, h, a, units(h, a));
            case "dilutes" -> call(name, h, a, holder(), odd(1 + chance.nextInt(3000)));
            case "prefers", "passes" -> call(name, a, chance.nextBoolean() ? amount() : a + chance.nextInt(5) - 2);
            case "breaks" -> call(name, k, what);
            case "part" -> call(name, h, k, what);
            case "chosen" -> call(name, set(), h, a, what);
            case "steady" -> call(name, set(), a);
            case "steadies" -> call(name, a, odd(chance.nextInt(3) - 1));
            case "yields" -> call(name, h, a, odd(chance.nextInt(22)));
            case "grant" -> call(name, h, odd(1 + chance.nextInt(chance.nextBoolean() ? 20 : 4000)));
            case "waive" -> call(name, h, chance.nextInt(3));
            case "rank" -> call(name, h, odd(chance.nextInt(7)));
            default -> Check.due("a call that is not known: " + name, 0, 1);
        }
    }

    /** The number itself, and now and then one that hardly can be. */
    private int odd(int usual) {
        return chance.nextInt(25) == 0 ? ODD[chance.nextInt(ODD.length)] : usual;
    }

    private int set() {
        return chance.nextBoolean() ? chance.nextInt(1 << 12) : chance.nextInt();
    }

    private int holder() {
        return odd(chance.nextInt(whole.model.holders.size() + (chance.nextInt(8) == 0 ? 1 : 0) + (whole.model.holders.isEmpty() ? 1 : 0)));
    }

    /** Mostly near a BREAK, where something changes. */
    private int amount() {
        List<Rat> breaks = whole.model.breaks();
        int roll = chance.nextInt(6);
        if (roll < 3 && !breaks.isEmpty()) {
            long near = breaks.get(chance.nextInt(breaks.size())).by(Rat.of(100 - whole.model.carve)).floor();
            return odd((int) Math.max(0, Math.min(9999999, near + chance.nextInt(5) - 2)));
        }
        return odd(chance.nextInt(roll == 3 ? 300 : roll == 4 ? 100000 : 10000000));
    }

    /** Mostly near what the HOLDER has. */
    private int units(int h, int amount) {
        long above = whole.has(h, amount, 0);
        if (above < 0 || chance.nextInt(4) == 0) {
            return odd(1 + chance.nextInt(5000));
        }
        return odd((int) (above / whole.has(h, amount, 1) / 100) + chance.nextInt(3) - 1);
    }

    private int released() {
        int held = Math.max(1, whole.sale(1));
        return chance.nextInt(4) == 0 ? held + chance.nextInt(2) : 1 + chance.nextInt(held);
    }
}
