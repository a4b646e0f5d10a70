import java.lang.reflect.InvocationTargetException;
import java.lang.reflect.Method;
import java.lang.reflect.Modifier;
import java.util.ArrayList;
import java.util.Arrays;
import java.util.IdentityHashMap;
import java.util.List;
import java.util.Map;
import java.util.TreeMap;

/** What the tests of boundary cases share: names, stories to begin with, and the ways to check. */
abstract class Boundaries {
    static final int THREE = EdgeCode.THREE, ROCKER = EdgeCode.ROCKER, MOHAWK = EdgeCode.MOHAWK;
    static final int CHOCTAW = EdgeCode.CHOCTAW, SLIDE = EdgeCode.SLIDE, STEP = EdgeCode.STEP;
    static final int TOE = EdgeCode.TOE, SALCHOW = EdgeCode.SALCHOW, LOOP = EdgeCode.LOOP;
    static final int FLIP = EdgeCode.FLIP, LUTZ = EdgeCode.LUTZ, AXEL = EdgeCode.AXEL;
    static final int NONE = EdgeCode.NONE, SPIN = 6;
    static final int KIND = 0, TURNS = 1, QUARTERS = 2, WRONG = 3, LATE = 4, FALL = 5, BASE = 6, SCORE = 7;
    static final int ELEMENTS = 0, COMPONENTS = 1, FINE = 2, TOTAL = 3, SECONDS = 4, RANK = 5;
    static final int MIN = Integer.MIN_VALUE, MAX = Integer.MAX_VALUE;

    static final Class<?> INDEX = IndexOutOfBoundsException.class;
    static final Class<?> ARGUMENT = IllegalArgumentException.class;
    static final Class<?> STATE = IllegalStateException.class;

    /** By kind, then by turns or level. */
    static final int[][] FIRST_VALUES = {
        {0, 40, 130, 420, 950}, {0, 40, 130, 430, 970}, {0, 50, 170, 490, 1050}, {0, 50, 180, 530, 1100},
        {0, 60, 210, 590, 1150}, {0, 110, 330, 800, 1250}, {0, 120, 150, 200, 270},
    };

    /** What a turn changes, by its kind, of the number that turn answers. */
    static final int[] CHANGES = {3, 1, 5, 7, 2, 4};

    /** By kind, the answer of turn where its jump takes off, and the one with the other edge, -1 if not possible. */
    static final int[] TAKE_OFFS = {7, 1, 7, 1, 3, 2};
    static final int[] WRONG_TAKE_OFFS = {-1, -1, -1, 3, 1, -1};

    static final int BEGINS = 2, AFTER_JUMP = 7, AFTER_SPIN = 3;

    private static final Map<Story, List<String>> STATES = new IdentityHashMap<>();
    private static String test = "";
    private static int wrong = 0;

    // ---- checks

    static void fail(String what) {
        wrong++;
        System.out.println(test + ": " + what);
    }

    static void same(String what, long got, long due) {
        if (got != due) {
            fail(what + " answered " + got + ", due is " + due);
        }
    }

    /** One call behind a story, on a new object. */
    static void answers(String what, Story story, State.Ask ask, long due) {
        String got = State.answerOf(story.told(), ask);
        if (!got.equals(String.valueOf(due))) {
            fail(what + " answered " + got + ", due is " + due);
        }
    }

    static void accepts(String what, Story story, Story.Act act) {
        answers(what, story, asAsk(act), 0);
    }

    /** Throws that one, and none of a class below or above it. */
    static boolean throwsJust(Class<?> due, String what, Story story, Story.Act act) {
        String got = State.answerOf(story.told(), asAsk(act));
        if (!got.equals(due.getName())) {
            fail(what + " answered " + (got.equals("0") ? "without an exception" : got) + ", due is " + due.getName());
        }
        return got.equals(due.getName());
    }

    /** Throws just that one, and nothing has changed after it. */
    static void refuses(Class<?> due, String what, Story story, Story.Act act) {
        if (!throwsJust(due, what, story, act)) {
            return;
        }
        List<String> before = STATES.computeIfAbsent(story, State::of);
        List<String> after = State.of(story.and(refused(act)));
        if (!before.equals(after)) {
            fail(what + " was refused, and yet changed " + firstChange(before, after));
        }
    }

    /** The call as part of a story that goes on behind it. */
    static Story.Act refused(Story.Act act) {
        return x -> State.answerOf(x, asAsk(act));
    }

    private static State.Ask asAsk(Story.Act act) {
        return x -> {
            act.on(x);
            return 0;
        };
    }

    private static String firstChange(List<String> before, List<String> after) {
        for (int i = 0; i < before.size() && i < after.size(); i++) {
            if (!before.get(i).equals(after.get(i))) {
                return before.get(i) + " to " + after.get(i);
            }
        }
        return before.size() + " answers to " + after.size();
    }

    // ---- numbers

    /** On both sides of a range: the nearest ones, some that a narrower type would take for good, and the farthest. */
    static int[] outside(int least, int greatest) {
        return new int[] {least - 1, greatest + 1, least - 256, greatest + 256, least - 65536, greatest + 65536, MIN, MAX};
    }

    /** Without one of the least and one of the greatest; 0.0 of fewer than 3. */
    static double trimmedMean(int... numbers) {
        int[] sorted = numbers.clone();
        Arrays.sort(sorted);
        double sum = 0.0;
        for (int i = 1; i < sorted.length - 1; i++) {
            sum += sorted[i];
        }
        return sorted.length < 3 ? 0.0 : sum / (sorted.length - 2);
    }

    static long scoreOf(int base, int... grades) {
        return base + (long) Math.rint((double) base * trimmedMean(grades) / 10.0);
    }

    static long componentOf(int... quarters) {
        return 2 * (long) Math.rint(25.0 * trimmedMean(quarters));
    }

    /** So many numbers of a range, other ones for each row. */
    static int[] spread(int row, int many, int least, int greatest) {
        int[] numbers = new int[many];
        for (int i = 0; i < many; i++) {
            numbers[i] = least + (row * (7 * i + 3) + 5 * i * i) % (greatest - least + 1);
        }
        return numbers;
    }

    // ---- stories

    static Story skaters(int many) {
        return Story.fresh().skaters(many);
    }

    /** One skater, who has begun. */
    static Story begun() {
        return skaters(1).begin(0);
    }

    /** One skater, who skates, and stands so that turn would have answered that, at so many seconds, 6 or more. */
    static Story standing(int where, int seconds) {
        return standing(begun(), where, seconds);
    }

    /** The same behind a story whose last call is begin. */
    static Story standing(Story begun, int where, int seconds) {
        int slides = seconds / 2 - 3;
        int left = BEGINS ^ where ^ (slides % 2 == 0 ? 0 : CHANGES[SLIDE]);
        for (int i = 0; i < 6 * 6 * 6; i++) {
            int one = i % 6;
            int two = i / 6 % 6;
            int three = i / 36;
            if ((CHANGES[one] ^ CHANGES[two] ^ CHANGES[three]) == left) {
                return begun.times(slides, x -> x.turn(SLIDE)).turns(one, two, three);
            }
        }
        throw new AssertionError("no way to " + where);
    }

    /** The same after few seconds. */
    static Story standing(int where) {
        return standing(where, 6);
    }

    /** One skater, who skates, with so many single toe jumps. */
    static Story toes(int many) {
        return standing(AFTER_JUMP).times(many, x -> x.jump(TOE, 1, false));
    }

    /** One skater, who has ended with one axel of three turns, whose base is 800. */
    static Story axel() {
        return begun().jump(AXEL, 3, false).end();
    }

    // ---- all tests of a class

    /** Each method whose name begins with a promise's number, by names; which promises those are is told as well. */
    static void runAll(Class<?> tests, int firstPromise, int lastPromise) throws IllegalAccessException {
        Map<String, Method> methods = new TreeMap<>();
        for (Method method : tests.getDeclaredMethods()) {
            if (method.getName().startsWith("promise") && Modifier.isStatic(method.getModifiers())) {
                methods.put(method.getName(), method);
            }
        }
        List<Integer> promises = new ArrayList<>();
        for (Method method : methods.values()) {
            test = method.getName();
            promises.add(Integer.parseInt(test.substring(7, 9)));
            try {
                method.setAccessible(true);
                method.invoke(null);
            } catch (InvocationTargetException e) {
                fail("threw " + e.getCause());
                e.getCause().printStackTrace(System.out);
            }
        }
        test = tests.getName();
        for (int promise = firstPromise; promise <= lastPromise; promise++) {
            if (!promises.contains(promise)) {
                fail("no test of promise " + promise);
            }
        }
        System.out.println(methods.size() + " tests of boundary cases, " + wrong + " answers not as due");
        if (wrong != 0) {
            System.exit(1);
        }
    }
}
