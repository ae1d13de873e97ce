import java.lang.reflect.InvocationTargetException;
import java.lang.reflect.Method;
import java.util.ArrayList;
import java.util.Arrays;
import java.util.List;
import java.util.Random;

/**
 * Runs of calls, made up by numbered seeds, on PhraseTrees and on the Oracle: all answers must be
 * alike. A run begins with calls that set things up; then come all calls, in most runs with few of
 * those that would empty the text and the code again.
 */
public final class RandomRunsTest {
    private static final int RUNS = 600, CALLS = 512, FIRST = 24;
    private static final int[] ODD = {Integer.MIN_VALUE, Integer.MAX_VALUE, -1, 100, 1000000, -1000000};

    /**
     * A call, how often it comes, and for each argument from 0 up to what it goes: a number, or
     * Q states, M letters, N nodes, T letters of the text, C words of the code, V words of a tree.
     */
    private static final String[] SETTINGS = {
        "letters 3 5 3", "width 6 6", "weight 16 Q M 15", "take 1 3", "crate 5 3 2 20", "sheet 3 1 80"};
    private static final String[] OTHERS = {
        "tree 4 Q 7", "node 12 Q N 10", "chance 4 Q N 1", "bits 3 Q N", "expected 3 Q 3", "longRun 2",
        "type 60 M", "wipe 1", "letter 6 T", "read 2 1", "encode 4", "decode 6", "code 6 C", "put 60 C V",
        "put 3 C 63", "rest 3 8", "rest 2 1", "fault 5", "harm 20 C V", "harm 5 C 63", "best 2 1", "likely 4 1",
        "keep 2 3", "drop 1 3", "lose 1 3", "hold 24 3 8 Q N", "held 12 3 8 2", "move 14 3 8 3 8 5",
        "move 2 3 20 3 20 0", "lay 30 1 12 M", "lay 2 1 79 300", "get 6 1 12", "write 2 1", "count 12 8",
        "digest 1"};

    private record Call(Method real, Method due, int[] args) {
        long on(Method m, Object x) throws ReflectiveOperationException {
            return ((Number) m.invoke(x, Arrays.stream(args).boxed().toArray())).longValue();
        }

        public String toString() {
            String all = Arrays.toString(args);
            return real.getName() + "(" + all.substring(1, all.length() - 1) + ")";
        }
    }

    private final Random dice;
    private final int oddOneIn;
    private final PhraseTrees real = new PhraseTrees();
    private final Oracle due = new Oracle();

    private RandomRunsTest(int seed) {
        dice = new Random(seed);
        oddOneIn = 4 + dice.nextInt(40);
    }

    private int most(String told) {
        return switch (told) {
            case "Q" -> due.count(1) - 1;
            case "M" -> due.count(0) - 1;
            case "N" -> due.tree(0, 1) - 1;
            case "T" -> due.count(3) - 1;
            case "C" -> due.count(4);
            case "V" -> due.tree(0, 0) - 1;
            default -> Integer.parseInt(told);
        };
    }

    private int argument(int most) {
        if (dice.nextInt(oddOneIn) == 0) {
            int which = dice.nextInt(ODD.length + 4);
            return which < ODD.length ? ODD[which] : which % 2 == 0 ? -1 : most + 1;
        }
        return most <= 0 ? 0 : dice.nextInt(6) == 0 ? most : dice.nextInt(most + 1);
    }

    private Call draw(String[] from) throws ReflectiveOperationException {
        int all = 0;
        for (String told : from) {
            all += Integer.parseInt(told.split(" ")[1]);
        }
        int at = dice.nextInt(all);
        int k = 0;
        while ((at -= Integer.parseInt(from[k].split(" ")[1])) >= 0) {
            k++;
        }
        String[] told = from[k].split(" ");
        int[] args = new int[told.length - 2];
        for (int i = 0; i < args.length; i++) {
            args[i] = argument(most(told[i + 2]));
        }
        Class<?>[] types = new Class<?>[args.length];
        Arrays.fill(types, int.class);
        return new Call(PhraseTrees.class.getMethod(told[0], types), Oracle.class.getMethod(told[0], types), args);
    }

    private boolean isAsDue(int seed) throws ReflectiveOperationException {
        int setOneIn = 1 << 1 + dice.nextInt(9);
        List<Call> calls = new ArrayList<>();
        for (int k = 0; k < CALLS; k++) {
            Call call = draw(k < FIRST || dice.nextInt(setOneIn) == 0 ? SETTINGS : OTHERS);
            calls.add(call);
            String got;
            String want = Long.toString(call.on(call.due, due));
            try {
                got = Long.toString(call.on(call.real, real));
            } catch (InvocationTargetException e) {
                got = e.getCause().toString();
            }
            if (!want.equals(got)) {
                System.out.println("seed " + seed + ", call " + k + ": " + call + " answered " + got + ", due is " + want);
                System.out.println("  after " + calls.subList(Math.max(0, k - 20), k));
                return false;
            }
        }
        return true;
    }

    public static void main(String[] args) throws ReflectiveOperationException {
        int wrong = 0;
        for (int seed = 1; seed <= RUNS; seed++) {
            wrong += new RandomRunsTest(seed).isAsDue(seed) ? 0 : 1;
        }
        System.out.println(RUNS - wrong + " of " + RUNS + " runs of " + CALLS + " calls are as due");
        System.exit(wrong == 0 ? 0 : 1);
    }
}
