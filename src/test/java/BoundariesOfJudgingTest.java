import java.util.Arrays;

/** Promises 8 to 10: each sentence of the document that names a boundary case, quoted above its test. */
public final class BoundariesOfJudgingTest extends Boundaries {
    /** Skater 0 goes on, with the jump 0, the spin 1 and the jump 2; skater 1 is not begun. */
    private static final Story GOES_ON =
        skaters(2).begin(0).jump(AXEL, 3, false).spin(3, 6).turns(STEP).jump(TOE, 2, true);
    private static final Story HAS_ENDED = GOES_ON.end();
    /** Skater 0 has ended as above, and skater 1 goes on with one jump. */
    private static final Story ANOTHER_GOES_ON = HAS_ENDED.begin(1).jump(AXEL, 3, false);
    private static final Story EMPTY = begun();
    private static final Story OF_12_JUMPS = toes(12);

    /** All that are no judges. */
    private static final int[] NO_JUDGES = outside(0, 6);

    // ---- promise 8

    /** "Each of the callers 0 to 2"; "IndexOutOfBoundsException as told, of the caller" */
    static void promise08_callers() {
        for (int i = 0; i <= 2; i++) {
            int caller = i;
            answers("caller " + caller, GOES_ON, x -> x.call(caller, 0, 4), 4);
        }
        for (int caller : outside(0, 2)) {
            refuses(INDEX, "caller " + caller, GOES_ON, x -> x.call(caller, 0, 4));
            refuses(INDEX, "caller " + caller + " as none goes on", HAS_ENDED, x -> x.call(caller, 0, 4));
            refuses(INDEX, "caller " + caller + " without skaters", Story.fresh(), x -> x.call(caller, 0, 4));
        }
    }

    /** "IndexOutOfBoundsException .. of the element, if a programme goes on": of none to 12 elements. */
    static void promise08_elements() {
        for (int many = 0; many <= 12; many++) {
            Story story = toes(many);
            int last = many - 1;
            int next = many;
            if (many > 0) {
                answers("the first of " + many, story, x -> x.call(0, 0, 3), 3);
                answers("the last of " + many, story, x -> x.call(0, last, 3), 3);
            }
            refuses(INDEX, "element " + next + " of " + many, story, x -> x.call(0, next, 3));
            refuses(INDEX, "element -1 of " + many, story, x -> x.call(0, -1, 3));
        }
        for (int element : outside(0, 11)) {
            refuses(INDEX, "element " + element, OF_12_JUMPS, x -> x.call(0, element, 3));
        }
    }

    /** "Calls a jump of the programme that goes on": of no other one. */
    static void promise08_elementsOfAnotherProgramme() {
        answers("the one that goes on", ANOTHER_GOES_ON, x -> x.call(0, 0, 3), 3);
        answers("the other stays", ANOTHER_GOES_ON.call(0, 0, 3), x -> x.element(0, 0, 0, QUARTERS), 0);
        refuses(INDEX, "an element that only the other has", ANOTHER_GOES_ON, x -> x.call(0, 1, 3));
        refuses(INDEX, "an element that only the other has", ANOTHER_GOES_ON, x -> x.call(0, 2, 3));
        refuses(INDEX, "the other's first", HAS_ENDED.begin(1), x -> x.call(0, 0, 3));
    }

    /** "quarters: 0 to 4" */
    static void promise08_quartersOutside() {
        for (int i = 0; i <= 4; i++) {
            int quarters = i;
            answers("quarters " + quarters, GOES_ON, x -> x.call(1, 2, quarters), quarters);
        }
        Story called = GOES_ON.call(0, 0, 2);
        for (int quarters : outside(0, 4)) {
            refuses(ARGUMENT, "quarters " + quarters, GOES_ON, x -> x.call(0, 0, quarters));
            refuses(ARGUMENT, "quarters " + quarters + " told again", called, x -> x.call(0, 0, quarters));
        }
    }

    /** "Throws IllegalStateException if no programme goes on": whatever the element, that is not asked for then. */
    static void promise08_noneGoesOn() {
        Story[] stories = {Story.fresh(), skaters(1), EMPTY.end(), HAS_ENDED, OF_12_JUMPS.end()};
        for (Story story : stories) {
            for (int element : new int[] {0, 1, 2, 3, 11, 12, -1, MIN, MAX}) {
                refuses(STATE, "call of " + element, story, x -> x.call(2, element, 4));
            }
        }
    }

    /** "as long as the programme is not ended": what was told ahead of the end stays. */
    static void promise08_untilTheEnd() {
        Story called = GOES_ON.call(0, 0, 3).call(1, 0, 4).end();
        refuses(STATE, "a third caller behind the end", called, x -> x.call(2, 0, 4));
        refuses(STATE, "a caller again behind the end", called, x -> x.call(0, 0, 0));
        answers("quarters", called, x -> x.element(0, 0, 0, QUARTERS), 3);
        answers("quarters as another goes on", called.begin(1), x -> x.element(0, 0, 0, QUARTERS), 3);
        answers("at 240 seconds", standing(7, 236).jump(TOE, 2, false), x -> x.call(0, 0, 2), 2);
        answers("at 242 seconds", standing(7, 238).jump(TOE, 2, false), x -> x.call(0, 0, 2), 2);
        answers("with 12 elements", OF_12_JUMPS, x -> x.call(0, 11, 1), 1);
    }

    /** "Throws IllegalStateException if .. the element is a spin" */
    static void promise08_spins() {
        for (int caller = 0; caller <= 2; caller++) {
            int told = caller;
            refuses(STATE, "call of a spin", GOES_ON, x -> x.call(told, 1, 0));
            refuses(STATE, "call of a spin", GOES_ON, x -> x.call(told, 1, 4));
        }
        refuses(STATE, "call of a spin of level 0", begun().spin(0, 1), x -> x.call(0, 0, 0));
        Story uncounted = begun().times(12, x -> x.spin(0, 1));
        refuses(STATE, "call of the last spin", uncounted, x -> x.call(0, 11, 0));
        answers("the jump ahead of it", GOES_ON, x -> x.call(0, 0, 4), 4);
        answers("the jump behind it", GOES_ON, x -> x.call(0, 2, 4), 4);
        answers("quarters of a spin", GOES_ON, x -> x.element(0, 1, 0, QUARTERS), 0);
    }

    /** "of several exceptions it is the first one of the throws clause" */
    static void promise08_whichException() {
        refuses(INDEX, "caller and quarters", GOES_ON, x -> x.call(3, 0, 5));
        refuses(INDEX, "caller and a spin", GOES_ON, x -> x.call(-1, 1, 0));
        refuses(INDEX, "caller, quarters and a spin", GOES_ON, x -> x.call(3, 1, -1));
        refuses(INDEX, "element and quarters", GOES_ON, x -> x.call(0, 3, 5));
        refuses(INDEX, "element and quarters", GOES_ON, x -> x.call(0, -1, -1));
        refuses(INDEX, "caller, element and quarters", GOES_ON, x -> x.call(3, 3, 5));
        refuses(ARGUMENT, "quarters and a spin", GOES_ON, x -> x.call(0, 1, 5));
        refuses(ARGUMENT, "quarters and a spin", GOES_ON, x -> x.call(2, 1, -1));
        for (Story story : new Story[] {Story.fresh(), skaters(1), HAS_ENDED}) {
            refuses(INDEX, "caller, as none goes on", story, x -> x.call(3, 0, 4));
            refuses(INDEX, "caller and quarters, as none goes on", story, x -> x.call(3, 0, 5));
            refuses(INDEX, "caller and element, as none goes on", story, x -> x.call(-1, 99, 4));
            refuses(ARGUMENT, "quarters, as none goes on", story, x -> x.call(0, 0, 5));
            refuses(ARGUMENT, "quarters and element, as none goes on", story, x -> x.call(0, 99, -1));
        }
    }

    /** "with none told 0; with one that": by each caller. */
    static void promise08_noneAndOneTold() {
        answers("none told", GOES_ON, x -> x.element(0, 0, 0, QUARTERS), 0);
        for (int i = 0; i < 15; i++) {
            int caller = i / 5;
            int quarters = i % 5;
            answers("one told", GOES_ON, x -> x.call(caller, 0, quarters), quarters);
            Story called = GOES_ON.call(caller, 0, quarters);
            answers("quarters", called, x -> x.element(0, 0, 0, QUARTERS), quarters);
            answers("quarters of the other jump", called, x -> x.element(0, 2, 0, QUARTERS), 0);
        }
    }

    /** "with two the lesser one": each two callers, in each order; a told 0 is told. */
    static void promise08_twoTold() {
        for (int i = 0; i < 9 * 25; i++) {
            int one = i % 3;
            int other = i / 3 % 3;
            int first = i / 9 % 5;
            int second = i / 45;
            if (one != other) {
                Story called = GOES_ON.call(one, 0, first);
                answers("two told", called, x -> x.call(other, 0, second), Math.min(first, second));
                answers("quarters", called.call(other, 0, second), x -> x.element(0, 0, 0, QUARTERS),
                    Math.min(first, second));
            }
        }
    }

    /** "with three the one in the middle by size": all of them, in each order. */
    static void promise08_threeTold() {
        int[][] orders = {{0, 1, 2}, {0, 2, 1}, {1, 0, 2}, {1, 2, 0}, {2, 0, 1}, {2, 1, 0}};
        for (int i = 0; i < 125; i++) {
            int[] quarters = {i % 5, i / 5 % 5, i / 25};
            int[] sorted = quarters.clone();
            Arrays.sort(sorted);
            for (int[] order : orders) {
                Story called = GOES_ON.call(order[0], 0, quarters[0]).call(order[1], 0, quarters[1]);
                answers("three told", called, x -> x.call(order[2], 0, quarters[2]), sorted[1]);
            }
        }
    }

    /** "again in place of that": the same caller is never two. */
    static void promise08_toldAgain() {
        answers("one again, lesser", GOES_ON.call(1, 0, 3), x -> x.call(1, 0, 1), 1);
        answers("one again, greater", GOES_ON.call(1, 0, 3), x -> x.call(1, 0, 4), 4);
        answers("one again and again", GOES_ON.call(1, 0, 0).call(1, 0, 1), x -> x.call(1, 0, 4), 4);
        answers("one of two again", GOES_ON.call(0, 0, 1).call(2, 0, 3), x -> x.call(0, 0, 4), 3);
        answers("one of two again", GOES_ON.call(0, 0, 1).call(2, 0, 3), x -> x.call(2, 0, 0), 0);
        Story three = GOES_ON.call(0, 0, 0).call(1, 0, 2).call(2, 0, 4);
        answers("one of three again", three, x -> x.call(0, 0, 3), 3);
        answers("one of three again", three, x -> x.call(1, 0, 4), 4);
        answers("one of three again", three, x -> x.call(2, 0, 0), 0);
        answers("one of three again, and another", three.call(2, 0, 0), x -> x.call(0, 0, 4), 2);
        answers("behind a refused one", three.and(refused(x -> x.call(1, 0, 5))), x -> x.call(0, 0, 0), 2);
    }

    // ---- promise 9

    /** "Judges are 0 to 6." */
    static void promise09_judges() {
        Story two = HAS_ENDED.grades(0, 0, 0, 0, 0, 0, 0, 0, 0);
        for (int i = 0; i <= 6; i++) {
            int judge = i;
            accepts("judge " + judge, HAS_ENDED, x -> x.grade(judge, 0, 0, 5));
            answers("a bias by judge " + judge, two.and(x -> x.grade(judge, 0, 0, 5)), x -> x.bias(judge), 500);
        }
        for (int judge : NO_JUDGES) {
            refuses(INDEX, "judge " + judge, HAS_ENDED, x -> x.grade(judge, 0, 0, 5));
            refuses(INDEX, "judge " + judge + " as it goes on", GOES_ON, x -> x.grade(judge, 0, 0, 5));
        }
    }

    /** "there is no such skater" */
    static void promise09_skaters() {
        for (int skater : outside(0, 1)) {
            refuses(INDEX, "grade of skater " + skater, HAS_ENDED, x -> x.grade(0, skater, 0, 5));
        }
        Story last = skaters(12).begin(11).jump(AXEL, 1, false).end();
        accepts("grade of skater 11", last, x -> x.grade(0, 11, 0, 5));
        for (int skater : outside(0, 11)) {
            refuses(INDEX, "grade of skater " + skater + " of 12", last, x -> x.grade(0, skater, 0, 5));
        }
        refuses(INDEX, "grade without skaters", Story.fresh(), x -> x.grade(0, 0, 0, 5));
    }

    /** "there is no such .. element": of none to 12 elements, ended or not. */
    static void promise09_elements() {
        for (int many = 0; many <= 12; many++) {
            Story story = toes(many).end();
            int last = many - 1;
            int next = many;
            if (many > 0) {
                accepts("grade of the first of " + many, story, x -> x.grade(6, 0, 0, -5));
                accepts("grade of the last of " + many, story, x -> x.grade(6, 0, last, -5));
            }
            refuses(INDEX, "grade of " + next + " of " + many, story, x -> x.grade(0, 0, next, 5));
            refuses(INDEX, "grade of -1 of " + many, story, x -> x.grade(0, 0, -1, 5));
        }
        for (int element : outside(0, 11)) {
            refuses(INDEX, "grade of " + element, OF_12_JUMPS.end(), x -> x.grade(0, 0, element, 5));
        }
        refuses(INDEX, "grade of one not begun", skaters(1), x -> x.grade(0, 0, 0, 5));
        refuses(INDEX, "grade of an empty one that goes on", EMPTY, x -> x.grade(0, 0, 0, 5));
        refuses(INDEX, "grade of an element of the other", ANOTHER_GOES_ON, x -> x.grade(0, 1, 2, 5));
    }

    /** "grade: -5 to 5" */
    static void promise09_gradesOutside() {
        for (int i = -5; i <= 5; i++) {
            int grade = i;
            Story graded = axel().grades(0, 0, grade, grade, grade);
            answers("score of three " + grade, graded, x -> x.element(0, 0, 0, SCORE), 800 + 80 * grade);
        }
        Story graded = axel().grades(0, 0, 1, 2, 3);
        for (int grade : outside(-5, 5)) {
            refuses(ARGUMENT, "grade " + grade, HAS_ENDED, x -> x.grade(0, 0, 0, grade));
            refuses(ARGUMENT, "grade " + grade + " again", graded, x -> x.grade(1, 0, 0, grade));
        }
    }

    /** "Throws IllegalStateException if the programme of the skater has not ended" */
    static void promise09_notEnded() {
        refuses(STATE, "the least grade of one that goes on", GOES_ON, x -> x.grade(0, 0, 0, -5));
        refuses(STATE, "the greatest grade of one that goes on", GOES_ON, x -> x.grade(6, 0, 2, 5));
        refuses(STATE, "grade of a spin of one that goes on", GOES_ON, x -> x.grade(0, 0, 1, 0));
        refuses(STATE, "grade as 12 elements are skated", OF_12_JUMPS, x -> x.grade(0, 0, 11, 5));
        refuses(STATE, "grade at 242 seconds", standing(7, 238).jump(TOE, 1, false), x -> x.grade(0, 0, 0, 5));
        refuses(STATE, "grade of the one that goes on", ANOTHER_GOES_ON, x -> x.grade(0, 1, 0, 5));
        accepts("grade of the one that has ended", ANOTHER_GOES_ON, x -> x.grade(0, 0, 0, 5));
        accepts("grade behind the end", HAS_ENDED, x -> x.grade(0, 0, 0, 5));
        accepts("grade of a spin", HAS_ENDED, x -> x.grade(0, 0, 1, 5));
    }

    /** "of several exceptions it is the first one of the throws clause" */
    static void promise09_whichException() {
        for (Story story : new Story[] {GOES_ON, HAS_ENDED}) {
            refuses(INDEX, "judge and grade", story, x -> x.grade(7, 0, 0, 6));
            refuses(INDEX, "skater and grade", story, x -> x.grade(0, 2, 0, 6));
            refuses(INDEX, "element and grade", story, x -> x.grade(0, 0, 3, -6));
            refuses(INDEX, "judge, skater, element and grade", story, x -> x.grade(-1, -1, -1, -6));
            refuses(INDEX, "element of one not begun, and grade", story, x -> x.grade(0, 1, 0, 6));
        }
        refuses(INDEX, "judge of one that goes on", GOES_ON, x -> x.grade(7, 0, 0, 0));
        refuses(INDEX, "element of one that goes on", GOES_ON, x -> x.grade(0, 0, 3, 0));
        refuses(INDEX, "skater as one goes on", GOES_ON, x -> x.grade(0, 2, 0, 0));
        refuses(ARGUMENT, "grade of one that goes on", GOES_ON, x -> x.grade(0, 0, 0, 6));
        refuses(ARGUMENT, "grade of one that goes on", GOES_ON, x -> x.grade(0, 0, 0, -6));
    }

    /** "with fewer than 3 of them 0.0": of each three judges, the third one makes the mean. */
    static void promise09_fewerThanThree() {
        answers("score of no grades", axel(), x -> x.element(0, 0, 0, SCORE), 800);
        for (int i = 0; i < 343; i++) {
            int one = i % 7;
            int two = i / 7 % 7;
            int three = i / 49;
            if (one < two && two < three) {
                Story first = axel().and(x -> x.grade(one, 0, 0, 5));
                Story second = first.and(x -> x.grade(two, 0, 0, 5));
                Story third = second.and(x -> x.grade(three, 0, 0, 5));
                answers("score of one grade", first, x -> x.element(0, 0, 0, SCORE), 800);
                answers("score of two grades", second, x -> x.element(0, 0, 0, SCORE), 800);
                answers("score of three grades", third, x -> x.element(0, 0, 0, SCORE), 1200);
            }
        }
        Story zeros = axel().grades(0, 0, 0, 0, 0, 5);
        answers("a grade of 0 is told", zeros, x -> x.element(0, 0, 0, SCORE), 800);
        answers("a grade of 0 is told", zeros.grades(0, 0, 0, 0, 5, 5), x -> x.element(0, 0, 0, SCORE), 1000);
    }

    /** "without one of the least and one of the greatest": of like ones just one. */
    static void promise09_oneLeastAndOneGreatest() {
        int[][] panels = {
            {5, 5, 5}, {-5, -5, -5}, {0, 0, 0}, {-5, 0, 5}, {5, 0, -5}, {-5, -5, 5}, {5, 5, -5}, {1, 1, 2},
            {5, 5, -5, -5}, {1, 2, 3, 4}, {4, 4, 4, 4}, {-5, -5, -5, 5}, {5, 5, 5, -5}, {0, 1, 1, 1},
            {5, 5, 5, -5, -5}, {-5, 5, 0, 0, 1}, {5, 5, 5, 5, 5, 5}, {-5, -5, -5, 5, 5, 5}, {0, 0, 0, 0, 0, 1},
            {5, 5, 5, 5, 5, 5, 5}, {-5, -5, -5, -5, -5, -5, -5}, {5, 5, 5, 5, -5, -5, -5}, {0, 0, 0, 1, 0, 0, 0},
            {-5, -4, -3, -2, -1, 0, 1}, {1, 0, 0, 0, 0, 0, -1},
        };
        for (int[] panel : panels) {
            Story graded = axel().grades(0, 0, panel);
            String what = "score of " + Arrays.toString(panel);
            answers(what, graded, x -> x.element(0, 0, 0, SCORE), scoreOf(800, panel));
        }
        answers("score of -5, 0, 5", axel().grades(0, 0, -5, 0, 5), x -> x.element(0, 0, 0, SCORE), 800);
        answers("score of 5, 5, -5, -5", axel().grades(0, 0, 5, 5, -5, -5), x -> x.element(0, 0, 0, SCORE), 800);
        answers("score of 5, 5, 5, -5", axel().grades(0, 0, 5, 5, 5, -5), x -> x.element(0, 0, 0, SCORE), 1200);
        for (int row = 0; row < 300; row++) {
            int[] panel = spread(row, 3 + row % 5, -5, 5);
            Story graded = axel().grades(0, 0, panel);
            answers("a score", graded, x -> x.element(0, 0, 0, SCORE), scoreOf(800, panel));
        }
    }

    /** "again in place of that": the same judge is never two, and an old least or greatest one is gone. */
    static void promise09_toldAgain() {
        Story thrice = axel().times(3, x -> x.grade(4, 0, 0, 5));
        answers("score of one judge's three", thrice, x -> x.element(0, 0, 0, SCORE), 800);
        Story two = axel().grades(0, 0, 5, 5).grades(0, 0, 4, 4);
        answers("score of two judges' four", two, x -> x.element(0, 0, 0, SCORE), 800);
        Story three = axel().grades(0, 0, -5, 1, 5);
        answers("the least again", three.and(x -> x.grade(0, 0, 0, 4)), x -> x.element(0, 0, 0, SCORE), 1120);
        answers("the greatest again", three.and(x -> x.grade(2, 0, 0, -3)), x -> x.element(0, 0, 0, SCORE), 560);
        answers("the middle again", three.and(x -> x.grade(1, 0, 0, 2)), x -> x.element(0, 0, 0, SCORE), 960);
        Story full = axel().grades(0, 0, 5, 5, 5, 5, 5, 5, 5).grades(0, 0, -5, -5, -5, -5, -5, -5, -5);
        answers("all seven again", full, x -> x.element(0, 0, 0, SCORE), 400);
    }

    /** "their sum divided by how many are left" for each number of judges up to all 7. */
    static void promise09_eachNumberOfJudges() {
        for (int many = 0; many <= 7; many++) {
            int[] panel = new int[many];
            for (int i = 0; i < many; i++) {
                panel[i] = i == 1 ? 5 : 0;
            }
            Story graded = axel().grades(0, 0, panel).value(0, AXEL, 3, 3000);
            answers("score of " + many, graded, x -> x.element(0, 0, 0, SCORE), scoreOf(3000, panel));
            for (int i = 0; i < many; i++) {
                panel[i] = i <= 1 ? 5 : 0;
            }
            Story more = axel().grades(0, 0, panel).value(0, AXEL, 3, 3000);
            long due = many < 3 ? 3000 : 3000 + 1500 / (many - 2);
            answers("score of " + many, more, x -> x.element(0, 0, 0, SCORE), due);
        }
    }

    // ---- promise 10

    /** "Judges are 0 to 6." */
    static void promise10_judges() {
        for (int i = 0; i <= 6; i++) {
            int judge = i;
            accepts("judge " + judge, HAS_ENDED, x -> x.component(judge, 0, 0, 40));
            Story told = HAS_ENDED.components(0, 0, 0, 0, 0, 0, 0, 0, 0).components(0, 0, 8);
            Story by = told.and(x -> x.component(judge, 0, 0, 8));
            answers("components by judge " + judge, by, x -> x.programme(0, 0, COMPONENTS), judge == 0 ? 0 : 80);
        }
        for (int judge : NO_JUDGES) {
            refuses(INDEX, "judge " + judge, HAS_ENDED, x -> x.component(judge, 0, 0, 40));
            refuses(INDEX, "judge " + judge + " as it goes on", GOES_ON, x -> x.component(judge, 0, 0, 40));
        }
    }

    /** "there is no such skater" */
    static void promise10_skaters() {
        for (int skater : outside(0, 1)) {
            refuses(INDEX, "component of skater " + skater, HAS_ENDED, x -> x.component(0, skater, 0, 40));
        }
        Story last = skaters(12).begin(11).end();
        accepts("component of skater 11", last, x -> x.component(0, 11, 0, 40));
        for (int skater : outside(0, 11)) {
            refuses(INDEX, "component of skater " + skater + " of 12", last, x -> x.component(0, skater, 0, 40));
        }
        refuses(INDEX, "component without skaters", Story.fresh(), x -> x.component(0, 0, 0, 40));
    }

    /** "the components 0 to 2 of a programme" */
    static void promise10_components() {
        for (int i = 0; i <= 2; i++) {
            int component = i;
            Story told = HAS_ENDED.components(0, component, 4, 4, 4);
            answers("component " + component, told, x -> x.programme(0, 0, COMPONENTS), 200);
        }
        for (int component : outside(0, 2)) {
            refuses(INDEX, "component " + component, HAS_ENDED, x -> x.component(0, 0, component, 40));
            refuses(INDEX, "component " + component + " as it goes on", GOES_ON, x -> x.component(0, 0, component, 0));
        }
    }

    /** "0 to 40 quarters each" */
    static void promise10_quartersOutside() {
        for (int i = 0; i <= 40; i++) {
            int quarters = i;
            Story told = HAS_ENDED.components(0, 1, quarters, quarters, quarters);
            answers("components of " + quarters, told, x -> x.programme(0, 0, COMPONENTS), 50 * quarters);
        }
        Story told = HAS_ENDED.components(0, 0, 10, 20, 30);
        for (int quarters : outside(0, 40)) {
            refuses(ARGUMENT, "quarters " + quarters, HAS_ENDED, x -> x.component(0, 0, 0, quarters));
            refuses(ARGUMENT, "quarters " + quarters + " again", told, x -> x.component(1, 0, 0, quarters));
        }
    }

    /** "Throws IllegalStateException if the programme of the skater has not ended": not begun, or going on. */
    static void promise10_notEnded() {
        refuses(STATE, "component of one not begun", skaters(1), x -> x.component(0, 0, 0, 0));
        refuses(STATE, "component of one not begun", HAS_ENDED, x -> x.component(6, 1, 2, 40));
        refuses(STATE, "component of one that goes on", EMPTY, x -> x.component(0, 0, 0, 0));
        refuses(STATE, "component of one that goes on", GOES_ON, x -> x.component(6, 0, 2, 40));
        refuses(STATE, "component as 12 elements are skated", OF_12_JUMPS, x -> x.component(0, 0, 0, 40));
        refuses(STATE, "component at 240 seconds", standing(7, 240), x -> x.component(0, 0, 0, 40));
        refuses(STATE, "component of the one that goes on", ANOTHER_GOES_ON, x -> x.component(0, 1, 0, 40));
        accepts("component of the one that has ended", ANOTHER_GOES_ON, x -> x.component(0, 0, 0, 40));
        accepts("component of an empty one that has ended", EMPTY.end(), x -> x.component(0, 0, 0, 40));
    }

    /** "of several exceptions it is the first one of the throws clause" */
    static void promise10_whichException() {
        for (Story story : new Story[] {skaters(2), GOES_ON, HAS_ENDED}) {
            refuses(INDEX, "judge and quarters", story, x -> x.component(7, 0, 0, 41));
            refuses(INDEX, "skater and quarters", story, x -> x.component(0, 2, 0, 41));
            refuses(INDEX, "component and quarters", story, x -> x.component(0, 0, 3, -1));
            refuses(INDEX, "all of them", story, x -> x.component(-1, -1, -1, -1));
            refuses(INDEX, "judge of one not begun", story, x -> x.component(7, 1, 0, 0));
            refuses(INDEX, "component of one not begun", story, x -> x.component(0, 1, 3, 0));
            refuses(ARGUMENT, "quarters of one not begun", story, x -> x.component(0, 1, 0, 41));
            refuses(ARGUMENT, "quarters of one not begun", story, x -> x.component(0, 1, 2, -1));
        }
        refuses(INDEX, "judge of one that goes on", GOES_ON, x -> x.component(7, 0, 0, 0));
        refuses(INDEX, "component of one that goes on", GOES_ON, x -> x.component(0, 0, 3, 0));
        refuses(ARGUMENT, "quarters of one that goes on", GOES_ON, x -> x.component(0, 0, 0, 41));
    }

    /** "with fewer than 3 of them 0.0": of each three judges, the third one makes the mean. */
    static void promise10_fewerThanThree() {
        answers("none told", HAS_ENDED, x -> x.programme(0, 0, COMPONENTS), 0);
        for (int i = 0; i < 343; i++) {
            int one = i % 7;
            int two = i / 7 % 7;
            int three = i / 49;
            if (one < two && two < three) {
                Story first = HAS_ENDED.and(x -> x.component(one, 0, 2, 40));
                Story second = first.and(x -> x.component(two, 0, 2, 40));
                Story third = second.and(x -> x.component(three, 0, 2, 40));
                answers("one told", first, x -> x.programme(0, 0, COMPONENTS), 0);
                answers("two told", second, x -> x.programme(0, 0, COMPONENTS), 0);
                answers("three told", third, x -> x.programme(0, 0, COMPONENTS), 2000);
            }
        }
        Story parts = HAS_ENDED.components(0, 0, 40, 40).components(0, 1, 40, 40).components(0, 2, 40, 40);
        answers("two told of each", parts, x -> x.programme(0, 0, COMPONENTS), 0);
        Story zeros = HAS_ENDED.components(0, 0, 0, 8, 40);
        answers("a told 0 is told", zeros, x -> x.programme(0, 0, COMPONENTS), 400);
    }

    /** "without one of the least and one of the greatest", of each number of judges up to all 7. */
    static void promise10_oneLeastAndOneGreatest() {
        int[][] panels = {
            {40, 40, 40}, {0, 0, 0}, {0, 20, 40}, {40, 40, 0}, {0, 0, 40}, {40, 40, 0, 0}, {40, 40, 40, 0},
            {0, 0, 0, 40}, {40, 0, 40, 0, 40}, {40, 40, 40, 0, 0, 0}, {40, 40, 40, 40, 40, 40, 40},
            {0, 0, 0, 0, 0, 0, 0}, {40, 40, 40, 0, 0, 0, 0}, {0, 0, 0, 0, 0, 0, 40}, {0, 40, 40, 40, 40, 40, 40},
        };
        for (int[] panel : panels) {
            Story told = HAS_ENDED.components(0, 0, panel);
            String what = "components of " + Arrays.toString(panel);
            answers(what, told, x -> x.programme(0, 0, COMPONENTS), componentOf(panel));
        }
        for (int row = 0; row < 500; row++) {
            int[] panel = spread(row, 3 + row % 5, 0, 40);
            Story told = HAS_ENDED.components(0, row % 3, panel);
            answers("components", told, x -> x.programme(0, 0, COMPONENTS), componentOf(panel));
        }
    }

    /** "twice what Math.rint makes of 25.0 times its trimmed mean": halves go to the even one, by each component. */
    static void promise10_halves() {
        for (int one = 0; one <= 40; one++) {
            EdgeCode x = EMPTY.end().told();
            x.component(0, 0, 0, 0);
            x.component(1, 0, 0, 40);
            x.component(2, 0, 0, one);
            for (int other = 0; other <= 40; other++) {
                x.component(3, 0, 0, other);
                long due = 2 * (long) Math.rint(25.0 * ((one + other) / 2.0));
                same("components of " + one + " and " + other, x.programme(0, 0, COMPONENTS), due);
            }
        }
        Story half = HAS_ENDED.components(0, 0, 0, 0, 1, 1);
        answers("12.5 to 12", half, x -> x.programme(0, 0, COMPONENTS), 24);
        answers("37.5 to 38", HAS_ENDED.components(0, 0, 1, 1, 2, 2), x -> x.programme(0, 0, COMPONENTS), 76);
        Story three = half.components(0, 1, 0, 0, 1, 1).components(0, 2, 0, 0, 1, 1);
        answers("each to 12 by itself", three, x -> x.programme(0, 0, COMPONENTS), 72);
    }

    /** "again in place of that": the same judge is never two, and each component is told by itself. */
    static void promise10_toldAgain() {
        Story thrice = HAS_ENDED.times(3, x -> x.component(5, 0, 0, 40));
        answers("one judge's three", thrice, x -> x.programme(0, 0, COMPONENTS), 0);
        Story three = HAS_ENDED.components(0, 0, 0, 10, 40);
        answers("three", three, x -> x.programme(0, 0, COMPONENTS), 500);
        answers("the least again", three.and(x -> x.component(0, 0, 0, 30)), x -> x.programme(0, 0, COMPONENTS), 1500);
        answers("the greatest again", three.and(x -> x.component(2, 0, 0, 4)), x -> x.programme(0, 0, COMPONENTS), 200);
        answers("another component", three.and(x -> x.component(0, 0, 1, 30)), x -> x.programme(0, 0, COMPONENTS), 500);
        Story all = HAS_ENDED.components(0, 0, 40, 40, 40).components(0, 1, 40, 40, 40).components(0, 2, 40, 40, 40);
        answers("all of the greatest", all, x -> x.programme(0, 0, COMPONENTS), 6000);
        answers("all of the greatest, total", all, x -> x.programme(0, 0, TOTAL), 6000 + 800 + 150 + 130 - 100);
        answers("another skater's", all, x -> x.programme(1, 0, COMPONENTS), 0);
    }

    public static void main(String[] args) throws Exception {
        runAll(BoundariesOfJudgingTest.class, 8, 10);
    }
}
