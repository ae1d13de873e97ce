import java.lang.reflect.Method;
import java.util.ArrayList;
import java.util.Arrays;
import java.util.Comparator;
import java.util.HashMap;
import java.util.List;
import java.util.Map;
import java.util.Random;

/** Runs of calls, made up by numbered seeds, on PhraseTrees and on the Oracle: all answers must be alike. */
public final class RandomRunsTest {
    private static final int RUNS = 400, CALLS = 512;
    private static final int[] ODD = {Integer.MIN_VALUE, Integer.MAX_VALUE, -1, 100, 1000000, -1000000};

    /** How often a call comes, then the least and the most of each argument. */
    private static final Map<String, int[]> CALL_RANGES = new HashMap<>();

    static {
        range("letters", 2, 1, 6, 0, 4);
        range("width", 4, 0, 7);
        range("weight", 12, -1, 3, -1, 4, 0, 16);
        range("tree", 4, -1, 3, -1, 8);
        range("node", 8, -1, 3, -1, 127, -1, 11);
        range("chance", 4, -1, 3, -1, 127, -1, 2);
        range("bits", 3, -1, 3, -1, 127);
        range("expected", 3, -1, 3, -1, 4);
        range("longRun", 2);
        range("type", 40, -1, 5);
        range("wipe", 1);
        range("letter", 4, -1, 81);
        range("read", 3, -1, 2);
        range("encode", 5);
        range("decode", 5);
        range("code", 5, -1, 81);
        range("put", 12, -1, 12, -1, 64);
        range("rest", 3, -1, 9);
        range("fault", 5);
        range("harm", 8, -1, 12, -1, 64);
        range("best", 2, -1, 2);
        range("likely", 4, -1, 2);
        range("keep", 2, -1, 4);
        range("take", 1, -1, 4);
        range("drop", 1, -1, 4);
        range("crate", 3, -1, 4, -1, 3, -2, 22);
        range("lose", 1, -1, 4);
        range("hold", 14, -1, 4, -1, 20, -1, 3, -1, 40);
        range("held", 10, -1, 4, -1, 20, -1, 3);
        range("move", 10, -1, 4, -1, 20, -1, 4, -1, 20, -1, 12);
        range("sheet", 1, -1, 2, -2, 82);
        range("lay", 20, -1, 2, -1, 12, -2, 5);
        range("get", 4, -1, 2, -1, 81);
        range("write", 2, -1, 2);
        range("count", 12, -1, 9);
        range("digest", 1);
    }

    private static void range(String call, int... often) {
        CALL_RANGES.put(call, often);
    }

    private record Call(Method real, Method due, int[] args) {
        Object on(Method m, Object x) throws ReflectiveOperationException {
            return m.invoke(x, Arrays.stream(args).boxed().toArray());
        }

        public String toString() {
            String all = Arrays.toString(args);
            return real.getName() + "(" + all.substring(1, all.length() - 1) + ")";
        }
    }

    private final List<Method> bag = new ArrayList<>();

    private RandomRunsTest() {
        Method[] all = PhraseTrees.class.getDeclaredMethods();
        Arrays.sort(all, Comparator.comparing(Method::getName));
        for (Method m : all) {
            if (java.lang.reflect.Modifier.isPublic(m.getModifiers())) {
                for (int k = 0; k < CALL_RANGES.get(m.getName())[0]; k++) {
                    bag.add(m);
                }
            }
        }
    }

    private Call draw(Random dice, int odd) throws ReflectiveOperationException {
        Method m = bag.get(dice.nextInt(bag.size()));
        int[] ranges = CALL_RANGES.get(m.getName());
        int[] args = new int[m.getParameterCount()];
        for (int k = 0; k < args.length; k++) {
            int least = ranges[1 + 2 * k];
            int most = ranges[2 + 2 * k];
            // most calls stay off the edges, or few would ever be carried out
            int off = dice.nextInt(odd) == 0 || most - least < 3 ? 0 : 1;
            args[k] = least + off + dice.nextInt(most - least + 1 - 2 * off);
            if (dice.nextInt(10 * odd) == 0) {
                args[k] = ODD[dice.nextInt(ODD.length)];
            }
        }
        return new Call(m, Oracle.class.getMethod(m.getName(), m.getParameterTypes()), args);
    }

    private boolean run(int seed) throws ReflectiveOperationException {
        Random dice = new Random(seed);
        int odd = 1 + dice.nextInt(12);
        PhraseTrees real = new PhraseTrees();
        Oracle due = new Oracle();
        List<Call> calls = new ArrayList<>();
        for (int k = 0; k < CALLS; k++) {
            Call call = draw(dice, odd);
            calls.add(call);
            Object want = call.on(call.due, due);
            Object got = call.on(call.real, real);
            if (!want.equals(got)) {
                System.out.println("seed " + seed + ", call " + k + ": " + call + " answered " + got + ", due is " + want);
                System.out.println("  after " + calls.subList(Math.max(0, k - 20), k));
                return false;
            }
        }
        return true;
    }

    public static void main(String[] args) throws ReflectiveOperationException {
        RandomRunsTest test = new RandomRunsTest();
        int wrong = 0;
        for (int seed = 1; seed <= RUNS; seed++) {
            wrong += test.run(seed) ? 0 : 1;
        }
        System.out.println(RUNS - wrong + " of " + RUNS + " runs of " + CALLS + " calls are as due");
        System.exit(wrong == 0 ? 0 : 1);
    }
}
