import java.util.Arrays;

/** Promises 13 to 16: each sentence of the document that names a boundary case, quoted above its test. */
public final class BoundariesOfRanksTest extends Boundaries {
    /** Skater 0 goes on, with the jump 0, the spin 1 and the jump 2; skater 1 is not begun. */
    private static final Story GOES_ON =
        skaters(2).begin(0).jump(AXEL, 3, false).spin(3, 6).turns(STEP).jump(TOE, 2, true);
    private static final Story HAS_ENDED = GOES_ON.end();

    /** A kind that is possible from where a programme begins, after a single turn or none, for each of these. */
    private static Story single(Story story, int skater, int kind, boolean isFall) {
        Story begun = story.begin(skater);
        Story standing = kind == AXEL ? begun : kind == LUTZ ? begun.turns(ROCKER) : begun.turns(MOHAWK);
        return standing.jump(kind, 1, isFall).end();
    }

    private static void ranks(String what, Story story, int edition, int... dues) {
        for (int i = 0; i < dues.length; i++) {
            int skater = i;
            answers(what + ", rank of " + skater, story, x -> x.programme(skater, edition, RANK), dues[skater]);
        }
    }

    /** The places behind those that are told have none. */
    private static void order(String what, Story story, int edition, int... dues) {
        for (int i = 0; i < 12; i++) {
            int place = i;
            int due = place < dues.length ? dues[place] : NONE;
            answers(what + ", starts " + place, story, x -> x.starts(edition, place), due);
        }
    }

    // ---- promise 13

    /** "there is no such skater" */
    static void promise13_skaters() {
        for (int many = 1; many <= 12; many++) {
            Story story = skaters(many);
            int last = many - 1;
            int next = many;
            answers("skater 0 of " + many, story, x -> x.programme(0, 0, SECONDS), 0);
            answers("the last of " + many, story, x -> x.programme(last, 2, RANK), NONE);
            refuses(INDEX, "skater " + next + " of " + many, story, x -> x.programme(next, 0, SECONDS));
            refuses(INDEX, "skater -1 of " + many, story, x -> x.programme(-1, 0, SECONDS));
        }
        for (int skater : outside(0, 11)) {
            refuses(INDEX, "skater " + skater, skaters(12), x -> x.programme(skater, 0, RANK));
        }
        refuses(INDEX, "without skaters", Story.fresh(), x -> x.programme(0, 0, TOTAL));
    }

    /** "edition: 0 to 2" */
    static void promise13_editions() {
        for (int i = 0; i <= 2; i++) {
            int edition = i;
            Story told = HAS_ENDED.value(edition, AXEL, 3, 3);
            answers("elements by " + edition, told, x -> x.programme(0, edition, ELEMENTS), 283);
            answers("elements by the next", told, x -> x.programme(0, (edition + 1) % 3, ELEMENTS), 1080);
            answers("total by " + edition, told, x -> x.programme(0, edition, TOTAL), 183);
            answers("total by the next", told, x -> x.programme(0, (edition + 1) % 3, TOTAL), 980);
        }
        for (int edition : outside(0, 2)) {
            for (int i = ELEMENTS; i <= RANK; i++) {
                int what = i;
                refuses(ARGUMENT, "edition " + edition + " for " + what, HAS_ENDED, x -> x.programme(0, edition, what));
            }
        }
    }

    /** "what: 0 to 5" */
    static void promise13_whats() {
        Story judged = HAS_ENDED.grades(0, 0, 1, 1, 1).components(0, 1, 4, 4, 4);
        int[] dues = {1160, 200, 100, 1260, 20, 0};
        for (int i = ELEMENTS; i <= RANK; i++) {
            int what = i;
            answers("what " + what, judged, x -> x.programme(0, 1, what), dues[what]);
            answers("what " + what + " of one not begun", judged, x -> x.programme(1, 1, what), what == RANK ? NONE : 0);
        }
        for (int what : outside(ELEMENTS, RANK)) {
            refuses(ARGUMENT, "what " + what, judged, x -> x.programme(0, 0, what));
            refuses(ARGUMENT, "what " + what + " of one not begun", judged, x -> x.programme(1, 0, what));
        }
    }

    /** "of several exceptions it is the first one of the throws clause" */
    static void promise13_whichException() {
        for (Story story : new Story[] {Story.fresh(), GOES_ON, HAS_ENDED}) {
            refuses(INDEX, "skater and edition", story, x -> x.programme(2, 3, 0));
            refuses(INDEX, "skater and what", story, x -> x.programme(2, 0, 6));
            refuses(INDEX, "all of them", story, x -> x.programme(-1, -1, -1));
            refuses(INDEX, "all of them", story, x -> x.programme(MAX, MIN, MAX));
        }
        refuses(ARGUMENT, "edition and what", GOES_ON, x -> x.programme(0, 3, 6));
        refuses(ARGUMENT, "edition and what", GOES_ON, x -> x.programme(1, -1, -1));
    }

    /** "100 for each of the first two falls of a programme, 200 for each further one": of none to 12 falls. */
    static void promise13_fines() {
        int[] dues = {0, 100, 200, 400, 600, 800, 1000, 1200, 1400, 1600, 1800, 2000, 2200};
        for (int falls = 0; falls <= 12; falls++) {
            Story fallen = standing(AFTER_JUMP).times(falls, x -> x.jump(TOE, 1, true));
            Story others = fallen.times(12 - falls, x -> x.jump(TOE, 1, false));
            answers("fine of " + falls, fallen, x -> x.programme(0, 0, FINE), dues[falls]);
            answers("fine of " + falls + " of 12", others, x -> x.programme(0, 0, FINE), dues[falls]);
            answers("fine of " + falls + " when ended", others.end(), x -> x.programme(0, 2, FINE), dues[falls]);
        }
    }

    /** "also of jumps that count nothing": a third like one, an eighth one. */
    static void promise13_finesOfUncountedJumps() {
        Story third = toes(2).jump(TOE, 1, true);
        answers("base of a third", third, x -> x.element(0, 2, 0, BASE), 0);
        answers("fine of a third", third, x -> x.programme(0, 0, FINE), 100);
        Story eighth = toes(7).jump(LOOP, 4, true);
        answers("base of an eighth", eighth, x -> x.element(0, 7, 0, BASE), 0);
        answers("fine of an eighth", eighth, x -> x.programme(0, 0, FINE), 100);
        Story farTooShort = begun().jump(AXEL, 1, true).call(0, 0, 4);
        answers("base of one far too short", farTooShort, x -> x.element(0, 0, 0, BASE), 0);
        answers("fine of one far too short", farTooShort, x -> x.programme(0, 0, FINE), 100);
    }

    /** "of a programme": each programme has its first two falls, and they need not be one behind the other. */
    static void promise13_finesOfEachProgramme() {
        Story first = skaters(2).begin(0).turns(MOHAWK).times(3, x -> x.jump(TOE, 1, true)).end();
        Story second = first.begin(1).turns(MOHAWK).jump(TOE, 1, true).spin(0, 1).turns(STEP).jump(TOE, 1, true);
        answers("fine of the first", second, x -> x.programme(0, 0, FINE), 400);
        answers("fine of the second", second, x -> x.programme(1, 0, FINE), 200);
        answers("with one between", second.jump(LOOP, 1, false).jump(LOOP, 1, true),
            x -> x.programme(1, 0, FINE), 400);
    }

    /** "together, less the fine, but 0 at least": around 0, by values, components and several falls. */
    static void promise13_totalIs0AtLeast() {
        int[] values = {0, 1, 98, 99, 100, 101, 102, 9999};
        for (int value : values) {
            Story fallen = begun().jump(AXEL, 1, true).end().value(1, AXEL, 1, value);
            answers("total of " + value, fallen, x -> x.programme(0, 1, TOTAL), Math.max(0, value - 100));
            answers("elements of " + value, fallen, x -> x.programme(0, 1, ELEMENTS), value);
        }
        Story fallen = begun().jump(AXEL, 1, true).value(0, AXEL, 1, 49).end();
        answers("with components of 50", fallen.components(0, 0, 1, 1, 1), x -> x.programme(0, 0, TOTAL), 0);
        answers("with components of 52", fallen.components(0, 0, 1, 1, 1).value(0, AXEL, 1, 51),
            x -> x.programme(0, 0, TOTAL), 1);
        Story twelve = standing(AFTER_JUMP).times(12, x -> x.jump(TOE, 4, true)).end();
        answers("total of 12 falls", twelve, x -> x.programme(0, 0, TOTAL), 0);
        answers("total of 12 falls of 1100 each", twelve.value(0, TOE, 4, 1100), x -> x.programme(0, 0, TOTAL), 0);
        answers("total of 12 falls of 1101 each", twelve.value(0, TOE, 4, 1101), x -> x.programme(0, 0, TOTAL), 2);
        answers("total of an empty one", begun().end(), x -> x.programme(0, 0, TOTAL), 0);
        answers("total of an empty one that goes on", begun(), x -> x.programme(0, 0, TOTAL), 0);
    }

    /** The greatest there can be: all values, grades and components. */
    static void promise13_theGreatestTotal() {
        Story story = standing(AFTER_JUMP, 120);
        for (int i = 0; i < 7; i++) {
            story = story.jump(i % 2 == 0 ? TOE : LOOP, 1 + i / 2, false);
        }
        story = story.spin(1, 6).spin(2, 6).spin(4, 6).end();
        for (int i = 0; i < 8; i++) {
            story = story.value(2, i % 2 == 0 ? TOE : LOOP, 1 + i / 2, 9999);
        }
        story = story.value(2, SPIN, 1, 9999);
        for (int element = 0; element < 10; element++) {
            story = story.grades(0, element, 5, 5, 5, 5, 5, 5, 5);
        }
        for (int component = 0; component < 3; component++) {
            story = story.components(0, component, 40, 40, 40, 40, 40, 40, 40);
        }
        long late = (long) Math.rint(9999 * 1.1);
        long elements = 7 * scoreOf((int) late, 5, 5, 5) + 3 * scoreOf(9999, 5, 5, 5);
        answers("elements", story, x -> x.programme(0, 2, ELEMENTS), elements);
        answers("components", story, x -> x.programme(0, 2, COMPONENTS), 6000);
        answers("total", story, x -> x.programme(0, 2, TOTAL), elements + 6000);
        answers("adds up", story, x -> x.addsUp() ? 1 : 0, 1);
    }

    /** "4 its seconds": "from 0", and beyond 240 by what began at 238; they stay as others skate. */
    static void promise13_seconds() {
        answers("not begun", skaters(1), x -> x.programme(0, 0, SECONDS), 0);
        answers("begun", begun(), x -> x.programme(0, 0, SECONDS), 0);
        answers("240", standing(7, 240).end(), x -> x.programme(0, 0, SECONDS), 240);
        answers("242", standing(7, 238).jump(TOE, 1, false).end(), x -> x.programme(0, 0, SECONDS), 242);
        answers("248", standing(7, 238).spin(0, 1).end(), x -> x.programme(0, 0, SECONDS), 248);
        Story second = HAS_ENDED.begin(1).turns(STEP);
        answers("the first's", second, x -> x.programme(0, 0, SECONDS), 20);
        answers("the second's", second, x -> x.programme(1, 0, SECONDS), 2);
    }

    /** "5 its rank, from 0, NONE if it has not ended" */
    static void promise13_rankOfThoseNotEnded() {
        ranks("not begun", skaters(2), 0, NONE, NONE);
        ranks("goes on", GOES_ON, 1, NONE, NONE);
        ranks("ended", HAS_ENDED, 2, 0, NONE);
        ranks("the other goes on", HAS_ENDED.begin(1).jump(AXEL, 4, false), 0, 0, NONE);
        ranks("both ended", HAS_ENDED.begin(1).jump(AXEL, 4, false).end(), 0, 1, 0);
        ranks("an empty one alone", begun().end(), 0, 0);
    }

    /** "by totals, the greatest first": one hundredth more is ahead, whatever the numbers and the elements' scores. */
    static void promise13_ranksByTotals() {
        Story two = single(single(skaters(2), 0, LUTZ, false), 1, LOOP, false);
        ranks("60 and 50", two, 0, 0, 1);
        ranks("49 and 50", two.value(0, LUTZ, 1, 49), 0, 1, 0);
        ranks("51 and 50", two.value(0, LUTZ, 1, 51), 0, 0, 1);
        ranks("by another edition", two.value(0, LUTZ, 1, 49), 1, 0, 1);
        Story fallen = single(single(skaters(2), 0, LUTZ, true), 1, LOOP, false).value(0, LUTZ, 1, 149);
        ranks("149 less 100, and 50", fallen, 0, 1, 0);
        ranks("151 less 100, and 50", fallen.value(0, LUTZ, 1, 151), 0, 0, 1);
        Story told = two.components(1, 2, 1, 1, 1);
        ranks("60, and 50 with components of 50", told, 0, 1, 0);
    }

    /** "of like ones by the scores of the elements together, the greatest first" */
    static void promise13_ranksByElements() {
        Story two = single(single(skaters(2), 0, LOOP, false), 1, LUTZ, true);
        ranks("50, and 150 less 100", two.value(0, LUTZ, 1, 150), 0, 1, 0);
        ranks("50, and 149 less 100", two.value(0, LUTZ, 1, 149), 0, 0, 1);
        Story parts = single(single(skaters(2), 0, LOOP, false), 1, LUTZ, false).components(0, 0, 1, 1, 1);
        ranks("50 and components of 50, and 100", parts.value(0, LUTZ, 1, 100), 0, 1, 0);
        Story none = single(single(skaters(2), 0, LOOP, true), 1, LUTZ, true);
        ranks("0 of 50 less 100, and 0 of 60 less 100", none, 0, 1, 0);
        ranks("0 of 50 less 100, and 0 of 50 less 100", none.value(0, LUTZ, 1, 50), 0, 0, 1);
        ranks("0 of 50 less 100, and 0 of 49 less 100", none.value(0, LUTZ, 1, 49), 0, 0, 1);
        ranks("0 of nothing, and 0 of 60 less 100", single(skaters(2).begin(0).end(), 1, LUTZ, true), 0, 1, 0);
        ranks("0 of 60 less 100, and 0 of nothing", single(skaters(2).begin(1).end(), 0, LUTZ, true), 0, 0, 1);
    }

    /** "but 0 at least" ahead of the ranks: of totals of 0 it is not asked how much greater the fine was. */
    static void promise13_ranksOfTotalsOf0() {
        Story lesserFine = single(skaters(2), 0, LOOP, true);
        Story two = lesserFine.begin(1).turns(MOHAWK).jump(TOE, 1, true).jump(LOOP, 1, true).end();
        ranks("50 less 100, and 90 less 200", two, 0, 1, 0);
        ranks("50 less 100, and 50 less 200", two.value(0, TOE, 1, 0), 0, 0, 1);
        order("50 less 100, and 90 less 200", two, 0, 0, 1);
        Story empty = skaters(2).begin(0).end().begin(1).turns(MOHAWK).jump(TOE, 1, true).end();
        ranks("none, and 40 less 100", empty, 0, 1, 0);
        ranks("none, and 0 less 100", empty.value(0, TOE, 1, 0), 0, 0, 1);
        ranks("none, and 100 less 100", empty.value(0, TOE, 1, 100), 0, 1, 0);
    }

    /** "then the lower number": of 2 to 12 that are alike, in whatever order they skated. */
    static void promise13_ranksByNumbers() {
        for (int many = 1; many <= 12; many++) {
            Story upwards = skaters(many);
            Story downwards = skaters(many);
            for (int i = 0; i < many; i++) {
                upwards = single(upwards, i, AXEL, false);
                downwards = single(downwards, many - 1 - i, AXEL, false);
            }
            int[] dues = new int[many];
            int[] starts = new int[many];
            for (int i = 0; i < many; i++) {
                dues[i] = i;
                starts[i] = many - 1 - i;
            }
            ranks("alike, upwards, of " + many, upwards, 0, dues);
            ranks("alike, downwards, of " + many, downwards, 1, dues);
            order("alike, upwards, of " + many, upwards, 2, starts);
            order("alike, downwards, of " + many, downwards, 0, starts);
        }
        ranks("empty ones", skaters(3).begin(2).end().begin(0).end().begin(1).end(), 0, 0, 1, 2);
    }

    /** All of it together: 12 skaters, with like totals, like elements and like numbers of none. */
    static void promise13_ranksOfTwelve() {
        Story story = skaters(12);
        int[] kinds = {TOE, LOOP, LUTZ, AXEL, TOE, LOOP, LUTZ, AXEL, TOE, LOOP, LUTZ, AXEL};
        for (int i = 0; i < 12; i++) {
            story = single(story, i, kinds[i], i >= 8);
        }
        // totals 40, 50, 60, 110 twice; with falls 0, 0, 0, 10
        int[] dues = {6, 4, 2, 0, 7, 5, 3, 1, 11, 10, 9, 8};
        ranks("twelve", story, 0, dues);
        order("twelve", story, 0, 8, 9, 10, 11, 4, 0, 5, 1, 6, 2, 7, 3);
    }

    // ---- promise 14

    /** "edition: 0 to 2" */
    static void promise14_editions() {
        Story two = single(single(skaters(2), 0, LUTZ, false), 1, LOOP, false);
        for (int i = 0; i <= 2; i++) {
            int edition = i;
            Story told = two.value(edition, LUTZ, 1, 1);
            answers("starts by " + edition, told, x -> x.starts(edition, 0), 0);
            answers("starts by the next", told, x -> x.starts((edition + 1) % 3, 0), 1);
        }
        for (int edition : outside(0, 2)) {
            refuses(ARGUMENT, "edition " + edition, two, x -> x.starts(edition, 0));
            refuses(ARGUMENT, "edition " + edition + " of a new object", Story.fresh(), x -> x.starts(edition, 11));
        }
    }

    /** "place: 0 to 11" */
    static void promise14_places() {
        answers("place 0", skaters(12), x -> x.starts(0, 0), 0);
        answers("place 11", skaters(12), x -> x.starts(0, 11), 11);
        answers("place 11 of none", Story.fresh(), x -> x.starts(0, 11), NONE);
        for (Story story : new Story[] {Story.fresh(), skaters(12), HAS_ENDED}) {
            for (int place : outside(0, 11)) {
                refuses(ARGUMENT, "place " + place, story, x -> x.starts(0, place));
            }
        }
        refuses(ARGUMENT, "both", skaters(12), x -> x.starts(3, 12));
        refuses(ARGUMENT, "both", skaters(12), x -> x.starts(-1, -1));
    }

    /** "Returns NONE if there are not so many.": of none to 12 skaters, none ranked. */
    static void promise14_notSoMany() {
        for (int many = 0; many <= 12; many++) {
            int[] dues = new int[many];
            for (int i = 0; i < many; i++) {
                dues[i] = i;
            }
            order("none ranked of " + many, skaters(many), 0, dues);
        }
    }

    /** "from the last rank to the first one, then all other skaters by numbers": those not begun, and who goes on. */
    static void promise14_rankedAheadOfOthers() {
        Story story = single(single(skaters(6), 4, LUTZ, false), 1, LOOP, false);
        order("two ranked", story, 0, 1, 4, 0, 2, 3, 5);
        order("two ranked, one goes on", story.begin(3), 0, 1, 4, 0, 2, 3, 5);
        order("two ranked, the last goes on", story.begin(5).jump(AXEL, 4, false), 0, 1, 4, 0, 2, 3, 5);
        order("three ranked", story.begin(3).end(), 0, 3, 1, 4, 0, 2, 5);
        order("three ranked, by another edition", story.begin(3).end().value(1, LOOP, 1, 61), 1, 3, 4, 1, 0, 2, 5);
        order("a further skater", story.skaters(1), 0, 1, 4, 0, 2, 3, 5, 6);
        order("one ranked, the last", single(skaters(3), 2, AXEL, false), 0, 2, 0, 1);
        order("one ranked, the first", single(skaters(3), 0, AXEL, false), 0, 0, 1, 2);
        order("all but one", single(single(skaters(3), 0, AXEL, false), 2, AXEL, false), 0, 2, 0, 1);
    }

    // ---- promise 15

    /** "Judges are 0 to 6." */
    static void promise15_judges() {
        Story graded = HAS_ENDED.grades(0, 0, -3, -2, -1, 0, 1, 2, 3);
        for (int i = 0; i <= 6; i++) {
            int judge = i;
            answers("bias of " + judge, graded, x -> x.bias(judge), 100 * (judge - 3));
            answers("bias of " + judge + " without grades", HAS_ENDED, x -> x.bias(judge), 0);
        }
        for (int judge : outside(0, 6)) {
            refuses(INDEX, "bias of " + judge, graded, x -> x.bias(judge));
            refuses(INDEX, "bias of " + judge + " of a new object", Story.fresh(), x -> x.bias(judge));
        }
    }

    /** "that have at least 3 grades": of none to 7 grades. */
    static void promise15_atLeast3Grades() {
        for (int many = 0; many <= 7; many++) {
            int[] panel = new int[many];
            Arrays.fill(panel, -1);
            if (many > 0) {
                panel[0] = 5;
            }
            Story graded = HAS_ENDED.grades(0, 0, panel);
            answers("bias by " + many, graded, x -> x.bias(0), many < 3 ? 0 : 600);
            answers("bias of another by " + many, graded, x -> x.bias(1), 0);
            answers("bias of one without a grade", HAS_ENDED.grades(0, 0, 5, 5, 5), x -> x.bias(6), 0);
        }
        Story again = HAS_ENDED.grades(0, 0, 5, -5).grades(0, 0, 4, -4);
        answers("two judges, four grades", again, x -> x.bias(0), 0);
    }

    /** "over all elements .. that he graded": not those that only others graded. */
    static void promise15_thoseHeGraded() {
        Story graded = HAS_ENDED.grades(0, 0, 5, 5, 5, 1).grades(0, 1, 2, 2, 2, 0);
        answers("bias of 3", graded, x -> x.bias(3), -400 - 200);
        answers("bias of 4, without grades", graded, x -> x.bias(4), 0);
        Story one = HAS_ENDED.grades(0, 0, 5, 5, 5, 1).grades(0, 1, 2, 2, 2).grades(0, 2, 3, 0, 0);
        answers("bias of 3, one graded", one, x -> x.bias(3), -400);
        answers("bias of 0", one, x -> x.bias(0), 300);
        Story zero = HAS_ENDED.grades(0, 0, 0, 5, 5, 5);
        answers("a grade of 0 is told", zero, x -> x.bias(0), -500);
    }

    /** "of all programmes": of all 12, as others go on, and of elements that count nothing. */
    static void promise15_allProgrammes() {
        Story story = skaters(12);
        for (int i = 0; i < 12; i++) {
            story = single(story, i, AXEL, false);
        }
        for (int i = 0; i < 12; i++) {
            story = story.grades(i, 0, 5, -5, -5);
        }
        answers("bias of 0", story, x -> x.bias(0), 12 * 1000);
        answers("bias of 1", story, x -> x.bias(1), 0);
        Story uncounted = toes(4).end().grades(0, 3, 5, 0, 0);
        answers("base of what counts nothing", uncounted, x -> x.element(0, 3, 0, BASE), 0);
        answers("bias by what counts nothing", uncounted, x -> x.bias(0), 500);
        Story goesOn = HAS_ENDED.grades(0, 0, 5, 0, 0).begin(1).jump(AXEL, 1, false);
        answers("bias as another goes on", goesOn, x -> x.bias(0), 500);
    }

    /** The greatest and the least bias that one programme makes, and the least of all told. */
    static void promise15_theGreatest() {
        Story story = toes(12).end();
        for (int i = 0; i < 12; i++) {
            story = story.grades(0, i, 5, -5, -5, -5, -5, -5, -5);
        }
        answers("the greatest", story, x -> x.bias(0), 12 * 1000);
        Story lesser = toes(12).end();
        for (int i = 0; i < 12; i++) {
            lesser = lesser.grades(0, i, -5, 5, 5, 5, 5, 5, 5);
        }
        answers("the least", lesser, x -> x.bias(0), -12 * 1000);
        answers("of the others", lesser, x -> x.bias(6), 0);
    }

    /** "told is Math.rint of 100.0 times it": thirds, both ways, more and less than 0. */
    static void promise15_rounding() {
        answers("a third", HAS_ENDED.grades(0, 0, 0, 0, 0, 1, 1), x -> x.bias(0), -33);
        answers("two thirds", HAS_ENDED.grades(0, 0, 0, 0, 0, 1, 1), x -> x.bias(3), 67);
        answers("less two thirds", HAS_ENDED.grades(0, 0, 0, 0, 1, 1, 1), x -> x.bias(0), -67);
        answers("a third more", HAS_ENDED.grades(0, 0, 0, 0, 1, 1, 1), x -> x.bias(2), 33);
        answers("a quarter less", HAS_ENDED.grades(0, 0, 0, 0, 0, 0, 1, 1), x -> x.bias(0), -25);
        Story two = HAS_ENDED.grades(0, 0, 0, 0, 0, 1, 1).grades(0, 1, 0, 0, 0, 1, 1);
        answers("two thirds of two", two, x -> x.bias(0), -67);
        answers("four thirds of two", two, x -> x.bias(3), 133);
        Story three = two.grades(0, 2, 0, 0, 0, 1, 1);
        answers("three thirds of three", three, x -> x.bias(0), -100);
        for (int row = 0; row < 200; row++) {
            int[] first = spread(row, 3 + row % 5, -5, 5);
            int[] second = spread(row + 7, 3 + row / 5 % 5, -5, 5);
            Story graded = HAS_ENDED.grades(0, 0, first).grades(0, 2, second);
            double sum = 0.0;
            sum += first[2] - trimmedMean(first);
            sum += second[2] - trimmedMean(second);
            answers("a bias", graded, x -> x.bias(2), (long) Math.rint(100.0 * sum));
        }
    }

    /** "again in place of that" */
    static void promise15_toldAgain() {
        Story graded = HAS_ENDED.grades(0, 0, 5, 0, 0);
        answers("bias", graded, x -> x.bias(0), 500);
        answers("told again", graded.and(x -> x.grade(0, 0, 0, -5)), x -> x.bias(0), -500);
        answers("told again by the others", graded.grades(0, 0, 5, 5, 5), x -> x.bias(0), 0);
        answers("behind a refused one", graded.and(refused(x -> x.grade(0, 0, 0, 6))), x -> x.bias(0), 500);
    }

    // ---- promise 16

    private static void addsUp(String what, Story story) {
        answers(what + ": addsUp", story, x -> x.addsUp() ? 1 : 0, 1);
    }

    /** "whether each programme adds up": of none, not begun, going on, ended, all 12. */
    static void promise16_eachProgramme() {
        addsUp("a new object", Story.fresh());
        addsUp("none begun", skaters(12));
        addsUp("an empty one", begun());
        addsUp("an empty one that ended", begun().end());
        addsUp("one goes on", GOES_ON);
        addsUp("one has ended", HAS_ENDED);
        addsUp("12 jumps", toes(12));
        addsUp("12 spins", begun().times(12, x -> x.spin(63, 6)).end());
        Story story = skaters(12);
        for (int i = 0; i < 12; i++) {
            story = story.begin(i).turns(MOHAWK).times(12, x -> x.jump(TOE, 3, true)).end();
            addsUp(i + 1 + " full programmes", story);
        }
        addsUp("all judged", story.grades(11, 11, 5, 5, 5).grades(11, 0, -5, -5, -4).components(11, 2, 40, 39, 38));
    }

    /** "one by one, from the last element on": the 12th one, and the first one, score. */
    static void promise16_fromTheLastElementOn() {
        Story jumps = begun().times(5, x -> x.spin(0, 1)).turns(STEP);
        for (int i = 0; i < 7; i++) {
            jumps = jumps.jump(i % 2 == 0 ? TOE : LOOP, 1 + i / 2, false);
        }
        answers("base of the 12th", jumps, x -> x.element(0, 11, 0, BASE), 950);
        addsUp("of 12, the last one a jump that counts", jumps);
        addsUp("the same, graded", jumps.end().grades(0, 11, 5, 4, 3));
        Story spins = toes(9).spin(0, 1).spin(0, 1).spin(15, 6);
        answers("base of the 12th", spins, x -> x.element(0, 11, 0, BASE), 270);
        addsUp("of 12, the last one a spin that counts", spins.end());
        addsUp("of one", begun().jump(AXEL, 4, false).end());
    }

    /** "by each edition", with the least and the greatest values. */
    static void promise16_eachEdition() {
        for (int edition = 0; edition <= 2; edition++) {
            addsUp("the least value", HAS_ENDED.value(edition, AXEL, 3, 0));
            addsUp("the greatest value", HAS_ENDED.value(edition, AXEL, 3, 9999));
            addsUp("of a level 0", begun().spin(0, 1).end().value(edition, SPIN, 0, 9999));
        }
    }

    /** "its total is what its elements' scores, components and fine make": also where that total is 0 at least. */
    static void promise16_whereTheFineIsGreater() {
        for (int value = 98; value <= 102; value++) {
            addsUp("around 0", begun().jump(AXEL, 1, true).value(0, AXEL, 1, value));
            addsUp("around 0, ended", begun().jump(AXEL, 1, true).end().value(2, AXEL, 1, value));
        }
        addsUp("12 falls", standing(AFTER_JUMP).times(12, x -> x.jump(TOE, 1, true)).end());
        addsUp("a fine, and components", begun().jump(AXEL, 1, true).end().components(0, 0, 40, 40, 40));
    }

    /** The terms make a total of what the other calls answer: from the last element on, as the promise says. */
    static void promise16_asTheOtherCallsAnswer() {
        Story judged = HAS_ENDED.grades(0, 0, 3, -4, 5, 1).grades(0, 1, 1, 2, 2).grades(0, 2, -5, -5, -3, 0)
            .components(0, 0, 7, 8, 11).components(0, 1, 0, 0, 1, 1).components(0, 2, 40, 40, 40, 39);
        for (Story story : new Story[] {HAS_ENDED, judged, judged.value(1, AXEL, 3, 15), judged.value(2, TOE, 2, 0)}) {
            EdgeCode x = story.told();
            for (int edition = 0; edition <= 2; edition++) {
                int sum = x.programme(0, edition, COMPONENTS) - x.programme(0, edition, FINE);
                for (int element = 2; element >= 0; element--) {
                    sum += x.element(0, element, edition, SCORE);
                }
                same("total by " + edition, x.programme(0, edition, TOTAL), Math.max(0, sum));
            }
            addsUp("as told", story);
        }
    }

    /** It asks, and changes nothing. */
    static void promise16_changesNothing() {
        for (Story story : new Story[] {Story.fresh(), GOES_ON, HAS_ENDED}) {
            if (!State.of(story).equals(State.of(story.and(x -> x.addsUp())))) {
                fail("addsUp changed something");
            }
        }
    }

    public static void main(String[] args) throws Exception {
        runAll(BoundariesOfRanksTest.class, 13, 16);
    }
}
