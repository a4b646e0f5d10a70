/** For each promise ordinary inputs, the edges that the document names, and wrong inputs. */
public final class PromisesTest {
    private static final int THREE = EdgeCode.THREE, ROCKER = EdgeCode.ROCKER, MOHAWK = EdgeCode.MOHAWK;
    private static final int CHOCTAW = EdgeCode.CHOCTAW, SLIDE = EdgeCode.SLIDE, STEP = EdgeCode.STEP;
    private static final int TOE = EdgeCode.TOE, SALCHOW = EdgeCode.SALCHOW, LOOP = EdgeCode.LOOP;
    private static final int FLIP = EdgeCode.FLIP, LUTZ = EdgeCode.LUTZ, AXEL = EdgeCode.AXEL;
    private static final int NONE = EdgeCode.NONE, SPIN = 6;
    private static final int KIND = 0, TURNS = 1, QUARTERS = 2, WRONG = 3, LATE = 4, FALL = 5, BASE = 6, SCORE = 7;
    private static final int ELEMENTS = 0, COMPONENTS = 1, FINE = 2, TOTAL = 3, SECONDS = 4, RANK = 5;

    private static final Class<?> INDEX = IndexOutOfBoundsException.class;
    private static final Class<?> ARGUMENT = IllegalArgumentException.class;
    private static final Class<?> STATE = IllegalStateException.class;

    private static int wrong = 0;

    private interface Run {
        void go();
    }

    private static void same(String what, long got, long due) {
        if (got != due) {
            wrong++;
            StackTraceElement at = Thread.currentThread().getStackTrace()[2];
            System.out.println("line " + at.getLineNumber() + ": " + what + " answered " + got + ", due is " + due);
        }
    }

    private static void isTrue(String what, boolean got) {
        if (!got) {
            wrong++;
            StackTraceElement at = Thread.currentThread().getStackTrace()[2];
            System.out.println("line " + at.getLineNumber() + ": " + what + " answered false, due is true");
        }
    }

    private static void refuses(Class<?> due, Run run) {
        Class<?> got = null;
        try {
            run.go();
        } catch (RuntimeException e) {
            got = e.getClass();
        }
        if (got != due) {
            wrong++;
            StackTraceElement at = Thread.currentThread().getStackTrace()[2];
            System.out.println("line " + at.getLineNumber() + ": threw " + got + ", due is " + due);
        }
    }

    /** With so many skaters. */
    private static EdgeCode with(int skaters) {
        EdgeCode x = new EdgeCode();
        for (int i = 0; i < skaters; i++) {
            x.skater();
        }
        return x;
    }

    /** With so many skaters, whose first one has begun. */
    private static EdgeCode begun(int skaters) {
        EdgeCode x = with(skaters);
        x.begin(0);
        return x;
    }

    private static void turns(EdgeCode x, int kind, int times) {
        for (int i = 0; i < times; i++) {
            x.turn(kind);
        }
    }

    /** From where a jump or a begin leaves the skater, to where this jump takes off with its right edge. */
    private static int jumpFromLanding(EdgeCode x, int kind, int turns, boolean isFall) {
        if (kind == SALCHOW || kind == FLIP) {
            x.turn(STEP);
            x.turn(SLIDE);
        } else if (kind == LUTZ) {
            x.turn(STEP);
        } else if (kind == AXEL) {
            x.turn(MOHAWK);
        }
        return x.jump(kind, turns, isFall);
    }

    /** From the begin of a programme to where a jump lands. */
    private static void stand(EdgeCode x) {
        x.turn(MOHAWK);
    }

    private static void gradeAll(EdgeCode x, int skater, int element, int... grades) {
        for (int judge = 0; judge < grades.length; judge++) {
            x.grade(judge, skater, element, grades[judge]);
        }
    }

    private static void componentAll(EdgeCode x, int skater, int component, int... quarters) {
        for (int judge = 0; judge < quarters.length; judge++) {
            x.component(judge, skater, component, quarters[judge]);
        }
    }

    private static void promise1NewObject() {
        EdgeCode x = new EdgeCode();
        refuses(INDEX, () -> x.begin(0));
        refuses(INDEX, () -> x.programme(0, 0, SECONDS));
        refuses(INDEX, () -> x.element(0, 0, 0, KIND));
        refuses(STATE, () -> x.end());
        same("starts", x.starts(0, 0), NONE);
        same("bias", x.bias(0), 0);
        isTrue("addsUp", x.addsUp());
        same("skater", x.skater(), 0);
        same("another object's skater", new EdgeCode().skater(), 0);
    }

    private static void promise2Skater() {
        EdgeCode x = new EdgeCode();
        for (int i = 0; i < 12; i++) {
            same("skater", x.skater(), i);
        }
        refuses(STATE, () -> x.skater());
        same("the last place", x.starts(0, 11), 11);
        x.begin(11);
        refuses(STATE, () -> x.skater());
        EdgeCode y = begun(1);
        same("a skater as a programme goes on", y.skater(), 1);
    }

    private static void promise3Begin() {
        EdgeCode x = with(2);
        refuses(INDEX, () -> x.begin(-1));
        refuses(INDEX, () -> x.begin(2));
        refuses(INDEX, () -> x.begin(Integer.MIN_VALUE));
        refuses(INDEX, () -> x.begin(Integer.MAX_VALUE));
        x.begin(1);
        refuses(INDEX, () -> x.begin(2));
        refuses(STATE, () -> x.begin(0));
        refuses(STATE, () -> x.begin(1));
        same("turn", x.turn(STEP), 4 + 2);
        same("seconds", x.programme(1, 0, SECONDS), 2);
        same("seconds of the other", x.programme(0, 0, SECONDS), 0);
        x.end();
        refuses(STATE, () -> x.begin(1));
        x.begin(0);
        same("a new programme's turn", x.turn(STEP), 4 + 2);
    }

    private static void promise4Turn() {
        EdgeCode x = with(1);
        refuses(ARGUMENT, () -> x.turn(6));
        refuses(STATE, () -> x.turn(THREE));
        x.begin(0);
        refuses(ARGUMENT, () -> x.turn(-1));
        refuses(ARGUMENT, () -> x.turn(6));
        same("seconds", x.programme(0, 0, SECONDS), 0);
        same("three", x.turn(THREE), 1);
        same("rocker", x.turn(ROCKER), 0);
        same("mohawk", x.turn(MOHAWK), 5);
        same("choctaw", x.turn(CHOCTAW), 2);
        same("slide", x.turn(SLIDE), 0);
        same("step", x.turn(STEP), 4);
        same("choctaw", x.turn(CHOCTAW), 3);
        same("mohawk", x.turn(MOHAWK), 6);
        same("seconds", x.programme(0, 0, SECONDS), 16);
        turns(x, SLIDE, 112);
        same("seconds", x.programme(0, 0, SECONDS), 240);
        refuses(ARGUMENT, () -> x.turn(-1));
        refuses(STATE, () -> x.turn(SLIDE));
        same("seconds", x.programme(0, 0, SECONDS), 240);
        x.end();
        refuses(STATE, () -> x.turn(SLIDE));
    }

    /** By kind: the answers of turn that tell where its jump is possible, and where it is wrong; -1 for nowhere. */
    private static final int[][] TAKE_OFFS = {{7, -1}, {1, -1}, {7, -1}, {1, 3}, {3, 1}, {2, -1}};

    /** The fewest turns from a programme's begin to each answer of turn. */
    private static final int[][] WAYS = {
        {SLIDE}, {THREE}, {}, {ROCKER}, {SLIDE, STEP}, {SLIDE, MOHAWK}, {STEP}, {MOHAWK},
    };

    private static void promise5TakeOffs() {
        for (int kind = TOE; kind <= AXEL; kind++) {
            for (int where = 0; where < 8; where++) {
                EdgeCode x = begun(1);
                for (int turn : WAYS[where]) {
                    x.turn(turn);
                }
                int seconds = 2 * WAYS[where].length;
                boolean isWrong = where == TAKE_OFFS[kind][1];
                if (where == TAKE_OFFS[kind][0] || isWrong) {
                    same("jump " + kind + " from " + where, x.jump(kind, 1, false), 0);
                    same("wrong edge", x.element(0, 0, 0, WRONG), isWrong ? 1 : 0);
                    same("seconds", x.programme(0, 0, SECONDS), seconds + 4);
                    same("where it lands, and a slide", x.turn(SLIDE), 5);
                } else {
                    int tried = kind;
                    refuses(STATE, () -> x.jump(tried, 1, false));
                    same("seconds", x.programme(0, 0, SECONDS), seconds);
                    refuses(INDEX, () -> x.element(0, 0, 0, KIND));
                    same("a slide from there", x.turn(SLIDE), where ^ 2);
                }
            }
        }
    }

    private static void promise5Jump() {
        EdgeCode x = with(1);
        refuses(ARGUMENT, () -> x.jump(6, 1, false));
        refuses(STATE, () -> x.jump(AXEL, 1, false));
        x.begin(0);
        refuses(ARGUMENT, () -> x.jump(-1, 1, false));
        refuses(ARGUMENT, () -> x.jump(6, 1, false));
        refuses(ARGUMENT, () -> x.jump(AXEL, 0, false));
        refuses(ARGUMENT, () -> x.jump(AXEL, 5, false));
        refuses(ARGUMENT, () -> x.jump(TOE, 5, false));
        same("jump", x.jump(AXEL, 4, true), 0);
        same("kind", x.element(0, 0, 0, KIND), AXEL);
        same("turns", x.element(0, 0, 0, TURNS), 4);
        same("quarters", x.element(0, 0, 0, QUARTERS), 0);
        same("fall", x.element(0, 0, 0, FALL), 1);
        same("late", x.element(0, 0, 0, LATE), 0);
        same("jump", x.jump(TOE, 1, false), 1);
        same("fall", x.element(0, 1, 0, FALL), 0);
        for (int i = 2; i < 12; i++) {
            same("jump", x.jump(LOOP, 1 + i % 4, false), i);
        }
        refuses(STATE, () -> x.jump(LOOP, 1, true));
        refuses(ARGUMENT, () -> x.jump(LOOP, 0, true));
        refuses(STATE, () -> x.spin(0, 1));
        same("fine", x.programme(0, 0, FINE), 100);
        same("seconds", x.programme(0, 0, SECONDS), 48);
        same("end", x.end(), 12);
        refuses(STATE, () -> x.jump(LOOP, 1, false));
    }

    private static void promise5LateJump() {
        EdgeCode x = begun(1);
        stand(x);
        turns(x, SLIDE, 58);
        same("seconds", x.programme(0, 0, SECONDS), 118);
        x.jump(TOE, 3, false);
        same("late at 118", x.element(0, 0, 0, LATE), 0);
        same("base at 118", x.element(0, 0, 0, BASE), 420);
        EdgeCode y = begun(1);
        stand(y);
        turns(y, SLIDE, 118);
        same("seconds", y.programme(0, 0, SECONDS), 238);
        refuses(STATE, () -> y.jump(AXEL, 3, false));
        turns(y, SLIDE, 1);
        refuses(STATE, () -> y.jump(TOE, 3, false));
        EdgeCode z = begun(1);
        stand(z);
        turns(z, STEP, 58);
        z.turn(SLIDE);
        z.spin(0, 1);
        same("a spin at 120 is not late", z.element(0, 0, 0, LATE), 0);
        EdgeCode w = begun(1);
        turns(w, MOHAWK, 60);
        w.jump(AXEL, 3, false);
        same("late at 120", w.element(0, 0, 0, LATE), 1);
        same("base at 120", w.element(0, 0, 0, BASE), 880);
        turns(w, SLIDE, 56);
        same("seconds", w.programme(0, 0, SECONDS), 236);
        w.jump(TOE, 1, false);
        same("seconds", w.programme(0, 0, SECONDS), 240);
        refuses(STATE, () -> w.jump(TOE, 1, false));
        refuses(STATE, () -> w.spin(0, 1));
        EdgeCode v = begun(1);
        turns(v, MOHAWK, 119);
        v.jump(TOE, 1, false);
        same("seconds may go beyond 240", v.programme(0, 0, SECONDS), 242);
        refuses(STATE, () -> v.turn(SLIDE));
    }

    private static void promise6Spin() {
        EdgeCode x = with(1);
        refuses(ARGUMENT, () -> x.spin(64, 1));
        refuses(STATE, () -> x.spin(63, 20));
        x.begin(0);
        refuses(ARGUMENT, () -> x.spin(-1, 6));
        refuses(ARGUMENT, () -> x.spin(64, 6));
        refuses(ARGUMENT, () -> x.spin(1, 0));
        refuses(ARGUMENT, () -> x.spin(1, 21));
        same("spin", x.spin(3, 5), 0);
        same("level with 5 rounds", x.element(0, 0, 0, TURNS), 0);
        same("spin", x.spin(1, 6), 1);
        same("level", x.element(0, 1, 0, TURNS), 1);
        same("spin", x.spin(1 + 2 + 4, 20), 2);
        same("level of two new features", x.element(0, 2, 0, TURNS), 2);
        same("kind", x.element(0, 2, 0, KIND), SPIN);
        same("quarters", x.element(0, 2, 0, QUARTERS), 0);
        same("wrong", x.element(0, 2, 0, WRONG), 0);
        same("late", x.element(0, 2, 0, LATE), 0);
        same("fall", x.element(0, 2, 0, FALL), 0);
        same("base", x.element(0, 2, 0, BASE), 150);
        x.spin(1 + 2 + 4, 6);
        same("level of none new", x.element(0, 3, 0, TURNS), 0);
        x.spin(8, 6);
        same("level of a spin that counts nothing", x.element(0, 4, 0, TURNS), 1);
        same("base of a fourth spin", x.element(0, 4, 0, BASE), 0);
        x.spin(8 + 16, 6);
        same("level after one that counts nothing", x.element(0, 5, 0, TURNS), 1);
        same("seconds", x.programme(0, 0, SECONDS), 60);
        same("where it ends, and a slide", x.turn(SLIDE), 1);
    }

    private static void promise6SpinLevels() {
        EdgeCode x = begun(2);
        x.spin(63, 6);
        same("level of six features", x.element(0, 0, 0, TURNS), 4);
        x.spin(32, 6);
        same("all six are had", x.element(0, 1, 0, TURNS), 0);
        for (int i = 2; i < 12; i++) {
            same("spin", x.spin(0, 1), i);
        }
        refuses(STATE, () -> x.spin(0, 1));
        refuses(ARGUMENT, () -> x.spin(0, 0));
        same("seconds", x.programme(0, 0, SECONDS), 120);
        x.end();
        x.begin(1);
        x.spin(31, 6);
        same("another programme's features are new", x.element(1, 0, 0, TURNS), 4);
        turns(x, SLIDE, 114);
        same("seconds", x.programme(1, 0, SECONDS), 238);
        same("a spin at 238", x.spin(32, 6), 1);
        same("seconds", x.programme(1, 0, SECONDS), 248);
        refuses(STATE, () -> x.spin(0, 1));
    }

    private static void promise7End() {
        EdgeCode x = with(2);
        refuses(STATE, () -> x.end());
        x.begin(0);
        same("end of an empty one", x.end(), 0);
        refuses(STATE, () -> x.end());
        x.begin(1);
        x.spin(0, 1);
        x.turn(ROCKER);
        x.jump(AXEL, 1, false);
        same("end", x.end(), 2);
        refuses(STATE, () -> x.end());
        same("rank", x.programme(0, 0, RANK), 1);
        same("rank", x.programme(1, 0, RANK), 0);
    }

    private static void promise8Call() {
        EdgeCode x = with(2);
        refuses(INDEX, () -> x.call(-1, 0, 9));
        refuses(INDEX, () -> x.call(3, 0, 0));
        refuses(ARGUMENT, () -> x.call(0, 99, 5));
        refuses(STATE, () -> x.call(0, 99, 4));
        x.begin(0);
        refuses(INDEX, () -> x.call(0, 0, 9));
        x.jump(AXEL, 2, false);
        x.spin(0, 1);
        refuses(INDEX, () -> x.call(0, -1, 0));
        refuses(INDEX, () -> x.call(0, 2, 0));
        refuses(INDEX, () -> x.call(3, 0, 5));
        refuses(ARGUMENT, () -> x.call(0, 1, 5));
        refuses(ARGUMENT, () -> x.call(0, 0, -1));
        refuses(STATE, () -> x.call(0, 1, 4));
        same("quarters of a spin", x.element(0, 1, 0, QUARTERS), 0);
        same("quarters, none told", x.element(0, 0, 0, QUARTERS), 0);
        same("one", x.call(2, 0, 4), 4);
        same("two: the lesser", x.call(0, 0, 2), 2);
        same("three: the middle", x.call(1, 0, 3), 3);
        same("told again", x.call(2, 0, 0), 2);
        same("told again", x.call(0, 0, 0), 0);
        same("quarters", x.element(0, 0, 0, QUARTERS), 0);
        same("told again", x.call(2, 0, 4), 3);
        x.end();
        refuses(STATE, () -> x.call(0, 0, 0));
        refuses(STATE, () -> x.call(0, 50, 0));
        x.begin(1);
        refuses(INDEX, () -> x.call(0, 0, 0));
        same("quarters stay", x.element(0, 0, 0, QUARTERS), 3);
    }

    private static void promise9Grade() {
        EdgeCode x = begun(2);
        x.jump(AXEL, 3, false);
        refuses(INDEX, () -> x.grade(7, 0, 0, 0));
        refuses(INDEX, () -> x.grade(0, 0, 1, 9));
        refuses(ARGUMENT, () -> x.grade(0, 0, 0, 6));
        refuses(STATE, () -> x.grade(0, 0, 0, 5));
        x.end();
        refuses(INDEX, () -> x.grade(-1, 0, 0, 0));
        refuses(INDEX, () -> x.grade(0, -1, 0, 0));
        refuses(INDEX, () -> x.grade(0, 2, 0, 0));
        refuses(INDEX, () -> x.grade(0, 1, 0, 0));
        refuses(INDEX, () -> x.grade(0, 0, -1, 0));
        refuses(INDEX, () -> x.grade(0, 0, 12, 0));
        refuses(ARGUMENT, () -> x.grade(0, 0, 0, -6));
        x.grade(6, 0, 0, 5);
        x.grade(0, 0, 0, 5);
        same("score of two grades", x.element(0, 0, 0, SCORE), 800);
        x.grade(3, 0, 0, -5);
        same("score of three", x.element(0, 0, 0, SCORE), 1200);
        refuses(ARGUMENT, () -> x.grade(6, 0, 0, 6));
        same("score after a refusal", x.element(0, 0, 0, SCORE), 1200);
        x.grade(6, 0, 0, -4);
        same("score of one told again", x.element(0, 0, 0, SCORE), 480);
        x.begin(1);
        x.grade(6, 0, 0, -3);
        same("a grade as another goes on", x.element(0, 0, 0, SCORE), 560);
    }

    private static void promise10Component() {
        EdgeCode x = begun(2);
        refuses(INDEX, () -> x.component(7, 0, 0, 0));
        refuses(INDEX, () -> x.component(0, 0, 3, 41));
        refuses(ARGUMENT, () -> x.component(0, 0, 0, 41));
        refuses(STATE, () -> x.component(0, 0, 0, 40));
        x.end();
        refuses(INDEX, () -> x.component(-1, 0, 0, 0));
        refuses(INDEX, () -> x.component(0, -1, 0, 0));
        refuses(INDEX, () -> x.component(0, 2, 0, 0));
        refuses(INDEX, () -> x.component(0, 0, -1, 0));
        refuses(ARGUMENT, () -> x.component(0, 0, 0, -1));
        refuses(ARGUMENT, () -> x.component(0, 1, 0, -1));
        refuses(STATE, () -> x.component(0, 1, 0, 0));
        componentAll(x, 0, 0, 40, 40);
        same("components, two told", x.programme(0, 0, COMPONENTS), 0);
        componentAll(x, 0, 0, 40, 40, 0);
        same("components, three told", x.programme(0, 0, COMPONENTS), 2000);
        componentAll(x, 0, 2, 1, 2, 2, 40);
        same("another one", x.programme(0, 0, COMPONENTS), 2100);
        componentAll(x, 0, 1, 0, 0, 0, 0, 1, 0, 1);
        same("25.0 times a fifth", x.programme(0, 0, COMPONENTS), 2110);
        x.component(3, 0, 1, 1);
        same("25.0 times two fifths", x.programme(0, 0, COMPONENTS), 2120);
        componentAll(x, 0, 2, 0, 0, 1, 1);
        same("25.0 times a half, to the even one", x.programme(0, 0, COMPONENTS), 2000 + 24 + 20);
        componentAll(x, 0, 2, 1, 1, 2, 2);
        same("25.0 times one and a half, to the even one", x.programme(0, 0, COMPONENTS), 2000 + 76 + 20);
    }

    private static final int[][] FIRST = {
        {0, 40, 130, 420, 950}, {0, 40, 130, 430, 970}, {0, 50, 170, 490, 1050}, {0, 50, 180, 530, 1100},
        {0, 60, 210, 590, 1150}, {0, 110, 330, 800, 1250}, {0, 120, 150, 200, 270},
    };

    private static void promise11FirstValues() {
        EdgeCode x = new EdgeCode();
        for (int edition = 0; edition < 3; edition++) {
            for (int kind = TOE; kind <= SPIN; kind++) {
                for (int turns = kind == SPIN ? 0 : 1; turns <= 4; turns++) {
                    int mine = 1000 * edition + 100 * kind + turns;
                    same("first value", x.value(edition, kind, turns, mine), FIRST[kind][turns]);
                }
            }
        }
        for (int edition = 0; edition < 3; edition++) {
            for (int kind = TOE; kind <= SPIN; kind++) {
                for (int turns = kind == SPIN ? 0 : 1; turns <= 4; turns++) {
                    same("told value", x.value(edition, kind, turns, 0), 1000 * edition + 100 * kind + turns);
                }
            }
        }
        same("another object's value", new EdgeCode().value(0, TOE, 1, 0), 40);
    }

    private static void promise11Value() {
        EdgeCode x = begun(1);
        refuses(ARGUMENT, () -> x.value(-1, TOE, 1, 0));
        refuses(ARGUMENT, () -> x.value(3, TOE, 1, 0));
        refuses(ARGUMENT, () -> x.value(0, -1, 1, 0));
        refuses(ARGUMENT, () -> x.value(0, 7, 1, 0));
        refuses(ARGUMENT, () -> x.value(0, TOE, 0, 0));
        for (int kind = TOE; kind <= AXEL; kind++) {
            int tried = kind;
            refuses(ARGUMENT, () -> x.value(0, tried, 0, 0));
        }
        refuses(ARGUMENT, () -> x.value(0, TOE, 5, 0));
        refuses(ARGUMENT, () -> x.value(0, SPIN, -1, 0));
        refuses(ARGUMENT, () -> x.value(0, SPIN, 5, 0));
        refuses(ARGUMENT, () -> x.value(0, TOE, 1, -1));
        refuses(ARGUMENT, () -> x.value(0, TOE, 1, 10000));
        same("the greatest value", x.value(0, TOE, 1, 9999), 40);
        same("the least value", x.value(0, TOE, 1, 0), 9999);
        same("value of a level 0", x.value(1, SPIN, 0, 70), 0);
        x.spin(0, 1);
        same("base of a level 0", x.element(0, 0, 1, BASE), 70);
        same("by another edition", x.element(0, 0, 0, BASE), 0);
        x.end();
        x.value(1, SPIN, 0, 80);
        same("base of an old programme", x.element(0, 0, 1, BASE), 80);
    }

    private static void promise12Element() {
        EdgeCode x = begun(2);
        refuses(INDEX, () -> x.element(0, 0, 9, 9));
        x.jump(AXEL, 1, false);
        refuses(INDEX, () -> x.element(-1, 0, 0, 0));
        refuses(INDEX, () -> x.element(2, 0, 0, 0));
        refuses(INDEX, () -> x.element(1, 0, 0, 0));
        refuses(INDEX, () -> x.element(0, -1, 0, 0));
        refuses(INDEX, () -> x.element(0, 1, 0, 0));
        refuses(INDEX, () -> x.element(0, 12, 0, 0));
        refuses(ARGUMENT, () -> x.element(0, 0, -1, 0));
        refuses(ARGUMENT, () -> x.element(0, 0, 3, 0));
        refuses(ARGUMENT, () -> x.element(0, 0, 0, -1));
        refuses(ARGUMENT, () -> x.element(0, 0, 0, 8));
        refuses(INDEX, () -> x.element(0, Integer.MIN_VALUE, 0, 0));
        refuses(INDEX, () -> x.element(Integer.MAX_VALUE, 0, 0, 0));
        same("base", x.element(0, 0, 0, BASE), 110);
        same("score", x.element(0, 0, 0, SCORE), 110);
        x.call(0, 0, 1);
        same("base, 1 quarter", x.element(0, 0, 0, BASE), 110);
        x.call(0, 0, 2);
        same("base, 2 quarters", x.element(0, 0, 0, BASE), 88);
        x.call(0, 0, 3);
        same("base of one turn, 3 quarters", x.element(0, 0, 0, BASE), 0);
        x.call(0, 0, 4);
        same("base of one turn, 4 quarters", x.element(0, 0, 0, BASE), 0);
        stand(x);
        x.turn(MOHAWK);
        x.jump(TOE, 4, false);
        x.call(1, 1, 3);
        same("base of four turns, 3 quarters", x.element(0, 1, 0, BASE), 420);
        same("turns stay", x.element(0, 1, 0, TURNS), 4);
        x.value(0, TOE, 3, 500);
        same("base by a value told", x.element(0, 1, 0, BASE), 500);
        same("base by another edition", x.element(0, 1, 2, BASE), 420);
    }

    private static void promise12SinglesFarTooShort() {
        EdgeCode x = begun(1);
        stand(x);
        for (int kind = TOE; kind <= AXEL; kind++) {
            jumpFromLanding(x, kind, 1, false);
            x.call(0, kind, 2);
            same("base, 2 quarters", x.element(0, kind, 0, BASE), (int) Math.rint(FIRST[kind][1] * 0.8));
            x.call(0, kind, 3);
            same("base, 3 quarters", x.element(0, kind, 0, BASE), 0);
            x.call(0, kind, 4);
            same("base, 4 quarters", x.element(0, kind, 0, BASE), 0);
        }
    }

    private static void promise12Rounding() {
        EdgeCode x = begun(1);
        turns(x, SLIDE, 60);
        x.turn(ROCKER);
        x.turn(SLIDE);
        x.jump(LUTZ, 3, false);
        same("wrong", x.element(0, 0, 0, WRONG), 1);
        same("late", x.element(0, 0, 0, LATE), 1);
        x.call(0, 0, 2);
        // 590: 472, 377.6 to 378, 415.8 to 416
        same("all three", x.element(0, 0, 0, BASE), 416);
        x.value(0, LUTZ, 3, 3);
        // 3: 2.4 to 2, 1.6 to 2, 2.2 to 2
        same("all three of 3", x.element(0, 0, 0, BASE), 2);
        x.value(0, LUTZ, 3, 9999);
        // 9999: 7999.2 to 7999, 6399.2 to 6399, 7038.9 to 7039
        same("all three of 9999", x.element(0, 0, 0, BASE), 7039);
        x.call(0, 0, 0);
        x.value(0, LUTZ, 3, 6);
        // 6: 4.8 to 5, 5.5 to 6
        same("edge, late of 6", x.element(0, 0, 0, BASE), 6);
        x.value(0, LUTZ, 3, 206);
        // 206: 164.8 to 165, 181.5 to the even 182
        same("edge, late of 206", x.element(0, 0, 0, BASE), 182);
        x.call(0, 0, 3);
        x.value(0, LUTZ, 2, 10);
        // 10: 8, 8.8 to 9
        same("a turn less, edge, late", x.element(0, 0, 0, BASE), 9);
    }

    private static void promise12HalvesOfGrades() {
        EdgeCode x = begun(1);
        x.jump(AXEL, 1, false);
        x.end();
        gradeAll(x, 0, 0, 1, 1, 1);
        int[][] dues = {{5, 5}, {15, 17}, {25, 27}, {35, 39}, {45, 49}, {1, 1}, {6, 7}, {0, 0}};
        for (int[] due : dues) {
            x.value(0, AXEL, 1, due[0]);
            same("score of " + due[0], x.element(0, 0, 0, SCORE), due[1]);
        }
        gradeAll(x, 0, 0, -1, -1, -1);
        int[][] lesser = {{5, 5}, {15, 13}, {25, 23}, {35, 31}, {45, 41}, {1, 1}, {6, 5}, {0, 0}};
        for (int[] due : lesser) {
            x.value(0, AXEL, 1, due[0]);
            same("score of " + due[0], x.element(0, 0, 0, SCORE), due[1]);
        }
        gradeAll(x, 0, 0, 5, -5, 1, 0, 0, 1, 0);
        x.value(0, AXEL, 1, 1000);
        same("a trimmed mean of 0.4", x.element(0, 0, 0, SCORE), 1040);
        gradeAll(x, 0, 0, 5, 5, 5, 5, -5, -5, -5);
        same("a trimmed mean of 1.0", x.element(0, 0, 0, SCORE), 1100);
    }

    private static void promise12CountedJumps() {
        EdgeCode x = begun(2);
        stand(x);
        x.jump(TOE, 1, false);
        x.jump(TOE, 1, true);
        x.jump(TOE, 2, false);
        x.jump(LOOP, 1, false);
        x.jump(TOE, 1, true);
        x.jump(TOE, 1, true);
        same("the first one", x.element(0, 0, 0, BASE), 40);
        same("a second one", x.element(0, 1, 0, BASE), 40);
        same("of other turns", x.element(0, 2, 0, BASE), 130);
        same("of another kind", x.element(0, 3, 0, BASE), 50);
        same("a third one", x.element(0, 4, 0, BASE), 0);
        same("score of a third one", x.element(0, 4, 0, SCORE), 0);
        same("a fourth one", x.element(0, 5, 0, BASE), 0);
        same("fine", x.programme(0, 0, FINE), 400);
        x.spin(1, 6);
        stand(x);
        x.turn(MOHAWK);
        x.turn(STEP);
        x.jump(LOOP, 2, false);
        same("a seventh jump", x.element(0, 7, 0, BASE), 170);
        x.jump(LOOP, 3, false);
        same("an eighth jump", x.element(0, 8, 0, BASE), 0);
        same("kind", x.element(0, 8, 0, KIND), LOOP);
        same("turns", x.element(0, 8, 0, TURNS), 3);
        x.end();
        x.begin(1);
        stand(x);
        x.jump(TOE, 1, false);
        same("another programme's jump", x.element(1, 0, 0, BASE), 40);
    }

    private static void promise12CountedAsSkated() {
        EdgeCode x = begun(1);
        stand(x);
        x.jump(TOE, 3, false);
        x.jump(TOE, 3, false);
        x.call(0, 0, 4);
        x.call(0, 1, 4);
        x.jump(TOE, 2, false);
        same("called ones are as they were skated", x.element(0, 2, 0, BASE), 130);
        x.jump(TOE, 3, false);
        x.call(0, 3, 4);
        same("a third one, called", x.element(0, 3, 0, BASE), 0);
    }

    private static void promise12CountedSpins() {
        EdgeCode x = begun(1);
        x.spin(0, 1);
        x.spin(1, 6);
        x.spin(2, 6);
        x.spin(4, 6);
        x.turn(STEP);
        x.jump(TOE, 1, false);
        same("a third spin", x.element(0, 2, 0, BASE), 120);
        same("a fourth spin", x.element(0, 3, 0, BASE), 0);
        same("level of a fourth spin", x.element(0, 3, 0, TURNS), 1);
        same("a jump behind", x.element(0, 4, 0, BASE), 40);
    }

    private static void promise13Programme() {
        EdgeCode x = with(3);
        refuses(INDEX, () -> x.programme(-1, 0, 0));
        refuses(INDEX, () -> x.programme(3, 9, 9));
        refuses(ARGUMENT, () -> x.programme(0, -1, 0));
        refuses(ARGUMENT, () -> x.programme(0, 3, 0));
        refuses(ARGUMENT, () -> x.programme(0, 0, -1));
        refuses(ARGUMENT, () -> x.programme(0, 0, 6));
        for (int what = ELEMENTS; what < RANK; what++) {
            same("of one that has not begun", x.programme(0, 0, what), 0);
        }
        same("rank of one that has not begun", x.programme(0, 0, RANK), NONE);
        x.begin(0);
        x.jump(AXEL, 3, false);
        x.spin(63, 6);
        same("rank of one that goes on", x.programme(0, 0, RANK), NONE);
        same("elements", x.programme(0, 0, ELEMENTS), 1070);
        same("total", x.programme(0, 0, TOTAL), 1070);
        x.end();
        gradeAll(x, 0, 0, 1, 2, 3, 4);
        componentAll(x, 0, 0, 4, 4, 4);
        same("elements", x.programme(0, 0, ELEMENTS), 1270);
        same("components", x.programme(0, 0, COMPONENTS), 200);
        same("fine", x.programme(0, 0, FINE), 0);
        same("total", x.programme(0, 0, TOTAL), 1470);
        same("seconds", x.programme(0, 0, SECONDS), 14);
        same("rank", x.programme(0, 0, RANK), 0);
        x.value(2, AXEL, 3, 0);
        same("total by another edition", x.programme(0, 2, TOTAL), 470);
        same("components by another edition", x.programme(0, 2, COMPONENTS), 200);
    }

    private static void promise13Fines() {
        EdgeCode x = begun(1);
        stand(x);
        int[] fines = {100, 200, 400, 600, 800};
        for (int i = 0; i < fines.length; i++) {
            x.jump(TOE, 1, true);
            same("fine of " + (i + 1), x.programme(0, 0, FINE), fines[i]);
        }
        same("elements", x.programme(0, 0, ELEMENTS), 80);
        same("a total is 0 at least", x.programme(0, 0, TOTAL), 0);
        isTrue("addsUp", x.addsUp());
        x.end();
        same("rank", x.programme(0, 0, RANK), 0);
        isTrue("addsUp", x.addsUp());
        x.value(1, TOE, 1, 401);
        same("total by another edition", x.programme(0, 1, TOTAL), 2);
    }

    /** Skaters 0, 2, 3 and 4 have ended with one jump each, of 60, 50, 50, and 110 with a fall. */
    private static EdgeCode ranked() {
        EdgeCode x = with(5);
        x.begin(0);
        x.turn(ROCKER);
        x.jump(LUTZ, 1, false);
        x.end();
        x.begin(2);
        stand(x);
        x.jump(LOOP, 1, false);
        x.end();
        x.begin(3);
        stand(x);
        x.jump(LOOP, 1, false);
        x.end();
        x.begin(4);
        x.jump(AXEL, 1, true);
        x.end();
        return x;
    }

    private static void promise13Ranks() {
        EdgeCode x = ranked();
        same("lutz", x.programme(0, 0, RANK), 0);
        same("not begun", x.programme(1, 0, RANK), NONE);
        same("loop", x.programme(2, 0, RANK), 1);
        same("the same loop", x.programme(3, 0, RANK), 2);
        same("axel with a fall", x.programme(4, 0, RANK), 3);
        x.value(0, AXEL, 1, 150);
        same("the same total, by more of elements", x.programme(4, 0, RANK), 1);
        same("rank", x.programme(2, 0, RANK), 2);
        same("rank", x.programme(3, 0, RANK), 3);
        same("by another edition", x.programme(4, 1, RANK), 3);
        componentAll(x, 3, 0, 1, 1, 1);
        same("components count", x.programme(3, 0, TOTAL), 100);
        same("rank", x.programme(3, 0, RANK), 0);
        x.begin(1);
        same("one that goes on", x.programme(1, 0, RANK), NONE);
        x.end();
        same("one that has ended", x.programme(1, 0, RANK), 4);
    }

    private static void promise14Starts() {
        EdgeCode x = ranked();
        refuses(ARGUMENT, () -> x.starts(-1, 0));
        refuses(ARGUMENT, () -> x.starts(3, 0));
        refuses(ARGUMENT, () -> x.starts(0, -1));
        refuses(ARGUMENT, () -> x.starts(0, 12));
        int[] first = {4, 3, 2, 0, 1, NONE};
        for (int place = 0; place < first.length; place++) {
            same("starts " + place, x.starts(0, place), first[place]);
        }
        same("the last place", x.starts(0, 11), NONE);
        x.value(1, AXEL, 1, 9999);
        int[] byAnother = {3, 2, 0, 4, 1, NONE};
        for (int place = 0; place < byAnother.length; place++) {
            same("starts by another edition " + place, x.starts(1, place), byAnother[place]);
        }
        x.skater();
        x.begin(5);
        x.turn(THREE);
        same("starts", x.starts(0, 4), 1);
        same("one that goes on", x.starts(0, 5), 5);
        x.end();
        same("one that has ended", x.starts(0, 0), 5);
        same("the other", x.starts(0, 5), 1);
        EdgeCode y = with(3);
        same("none ranked", y.starts(0, 0), 0);
        same("none ranked", y.starts(0, 2), 2);
        same("none ranked", y.starts(0, 3), NONE);
    }

    private static void promise15Bias() {
        EdgeCode x = with(2);
        refuses(INDEX, () -> x.bias(-1));
        refuses(INDEX, () -> x.bias(7));
        x.begin(0);
        x.jump(AXEL, 1, false);
        x.jump(TOE, 1, false);
        x.end();
        x.begin(1);
        x.spin(0, 1);
        x.end();
        gradeAll(x, 0, 0, 5, 1);
        same("two grades", x.bias(0), 0);
        x.grade(6, 0, 0, -2);
        same("three grades", x.bias(0), 400);
        same("three grades", x.bias(1), 0);
        same("three grades", x.bias(6), -300);
        same("a judge without grades", x.bias(3), 0);
        gradeAll(x, 0, 1, 0, 0, 1, 0, 1);
        same("a third less", x.bias(0), 367);
        same("two thirds more", x.bias(2), 67);
        gradeAll(x, 1, 0, 2, 2);
        same("another programme of two grades", x.bias(0), 367);
        gradeAll(x, 1, 0, 2, 2, -5);
        same("another programme", x.bias(2), -633);
        x.grade(0, 0, 0, 1);
        same("told again", x.bias(0), -33);
        same("the others change", x.bias(6), -300);
    }

    private static void promise16AddsUp() {
        EdgeCode x = ranked();
        isTrue("addsUp", x.addsUp());
        gradeAll(x, 0, 0, 3, -4, 5, 1);
        componentAll(x, 4, 2, 7, 8, 11);
        x.value(2, LUTZ, 1, 9999);
        isTrue("addsUp", x.addsUp());
        x.begin(1);
        x.jump(AXEL, 4, true);
        x.call(0, 0, 2);
        isTrue("addsUp as one goes on", x.addsUp());
    }

    private static void nothingChanged() {
        EdgeCode x = begun(1);
        x.jump(AXEL, 1, false);
        x.turn(STEP);
        refuses(STATE, () -> x.jump(TOE, 1, true));
        refuses(ARGUMENT, () -> x.jump(LUTZ, 5, true));
        refuses(ARGUMENT, () -> x.spin(63, 21));
        refuses(ARGUMENT, () -> x.call(0, 0, 5));
        refuses(INDEX, () -> x.call(3, 0, 4));
        same("fine", x.programme(0, 0, FINE), 0);
        same("quarters", x.element(0, 0, 0, QUARTERS), 0);
        same("seconds", x.programme(0, 0, SECONDS), 6);
        x.spin(63, 6);
        same("level", x.element(0, 1, 0, TURNS), 4);
        same("end", x.end(), 2);
    }

    private static void otherWays() {
        EdgeCode x = begun(1);
        stand(x);
        for (int kind = TOE; kind <= AXEL; kind++) {
            same("jump", jumpFromLanding(x, kind, 2, kind == LUTZ), kind);
            same("wrong", x.element(0, kind, 0, WRONG), 0);
            same("base", x.element(0, kind, 0, BASE), FIRST[kind][2]);
        }
        same("elements", x.programme(0, 0, ELEMENTS), 130 + 130 + 170 + 180 + 210 + 330);
        same("total", x.programme(0, 0, TOTAL), 1050);
    }

    public static void main(String[] args) {
        promise1NewObject();
        promise2Skater();
        promise3Begin();
        promise4Turn();
        promise5TakeOffs();
        promise5Jump();
        promise5LateJump();
        promise6Spin();
        promise6SpinLevels();
        promise7End();
        promise8Call();
        promise9Grade();
        promise10Component();
        promise11FirstValues();
        promise11Value();
        promise12Element();
        promise12SinglesFarTooShort();
        promise12Rounding();
        promise12HalvesOfGrades();
        promise12CountedJumps();
        promise12CountedAsSkated();
        promise12CountedSpins();
        promise13Programme();
        promise13Fines();
        promise13Ranks();
        promise14Starts();
        promise15Bias();
        promise16AddsUp();
        nothingChanged();
        otherWays();
        if (wrong != 0) {
            System.out.println(wrong + " answers are not as due");
            System.exit(1);
        }
    }
}
