/** Promises 1 to 7: each sentence of the document that names a boundary case, quoted above its test. */
public final class BoundariesOfProgrammesTest extends Boundaries {
    /** What a programme's seconds and elements may forbid, each alone and with all else in order for a toe jump. */
    private static final Story NEVER_BEGUN = skaters(1);
    private static final Story ENDED = standing(AFTER_JUMP).end();
    private static final Story ENDED_AND_ANOTHER_LEFT = skaters(2).begin(0).turns(MOHAWK).end();
    private static final Story AT_238 = standing(AFTER_JUMP, 238);
    private static final Story AT_240 = standing(AFTER_JUMP, 240);
    private static final Story AT_242 = AT_238.jump(TOE, 1, false);
    private static final Story AT_248 = AT_238.spin(0, 1);
    private static final Story OF_12_JUMPS = toes(12);
    private static final Story OF_12_SPINS = begun().times(12, x -> x.spin(0, 1)).turns(STEP);

    // ---- promise 1

    /** "Begins without skaters." */
    static void promise01_aNewObjectHasNoSkaters() {
        Story fresh = Story.fresh();
        for (int skater : new int[] {0, -1, 1, 11, 12, MIN, MAX}) {
            refuses(INDEX, "begin " + skater, fresh, x -> x.begin(skater));
            refuses(INDEX, "grade of " + skater, fresh, x -> x.grade(0, skater, 0, 0));
            refuses(INDEX, "component of " + skater, fresh, x -> x.component(0, skater, 0, 0));
            refuses(INDEX, "element of " + skater, fresh, x -> x.element(skater, 0, 0, KIND));
            refuses(INDEX, "programme of " + skater, fresh, x -> x.programme(skater, 0, SECONDS));
        }
        answers("the first skater", fresh, x -> x.skater(), 0);
    }

    /** "Begins without skaters": so nothing goes on, nothing is ranked, nobody was graded. */
    static void promise01_aNewObjectHasNothingElseEither() {
        Story fresh = Story.fresh();
        refuses(STATE, "turn", fresh, x -> x.turn(THREE));
        refuses(STATE, "jump", fresh, x -> x.jump(AXEL, 1, false));
        refuses(STATE, "spin", fresh, x -> x.spin(0, 1));
        refuses(STATE, "end", fresh, x -> x.end());
        refuses(STATE, "call", fresh, x -> x.call(0, 0, 0));
        for (int i = 0; i < 36; i++) {
            int edition = i / 12;
            int place = i % 12;
            answers("starts " + edition + " " + place, fresh, x -> x.starts(edition, place), NONE);
        }
        for (int i = 0; i < 7; i++) {
            int judge = i;
            answers("bias " + judge, fresh, x -> x.bias(judge), 0);
        }
        answers("addsUp", fresh, x -> x.addsUp() ? 1 : 0, 1);
    }

    /** "Begins without skaters", whatever other objects have. */
    static void promise01_objectsShareNothing() {
        EdgeCode one = toes(3).call(0, 0, 4).value(0, TOE, 1, 7).value(2, SPIN, 0, 9).told();
        EdgeCode other = new EdgeCode();
        same("skater of the other", other.skater(), 0);
        same("value of the other", other.value(0, TOE, 1, 40), 40);
        same("value of the other", other.value(2, SPIN, 0, 0), 0);
        other.begin(0);
        same("turn of the other", other.turn(THREE), 1);
        same("end of the other", other.end(), 0);
        same("end of the one", one.end(), 3);
        same("skater of the one", one.skater(), 1);
    }

    /** "An object is used for at most 512 calls after it has been made." */
    static void promise01_the512thCallIsAnswered() {
        Story story = skaters(11).times(500, x -> x.addsUp());
        same("calls ahead", story.calls(), 511);
        answers("skater as the 512th call", story, x -> x.skater(), 11);
        throwsJust(INDEX, "programme as the 512th call", story, x -> x.programme(11, 0, 0));
        Story turned = begun().times(120, x -> x.turn(CHOCTAW)).times(389, x -> x.bias(0));
        same("calls ahead", turned.calls(), 511);
        answers("end as the 512th call", turned, x -> x.end(), 0);
        throwsJust(STATE, "turn as the 512th call", turned, x -> x.turn(STEP));
    }

    /** "Skaters are numbered from 0", "NONE = -1", and the numbers of feet, edges, ways, turns and jumps. */
    static void promise01_constants() {
        same("NONE", EdgeCode.NONE, -1);
        int[] zeros = {EdgeCode.LEFT, EdgeCode.INSIDE, EdgeCode.FORWARD, EdgeCode.THREE, EdgeCode.TOE};
        for (int zero : zeros) {
            same("a constant of 0", zero, 0);
        }
        int[] ones = {EdgeCode.RIGHT, EdgeCode.OUTSIDE, EdgeCode.BACKWARD, EdgeCode.ROCKER, EdgeCode.SALCHOW};
        for (int one : ones) {
            same("a constant of 1", one, 1);
        }
        same("MOHAWK", EdgeCode.MOHAWK, 2);
        same("CHOCTAW", EdgeCode.CHOCTAW, 3);
        same("SLIDE", EdgeCode.SLIDE, 4);
        same("STEP", EdgeCode.STEP, 5);
        same("LOOP", EdgeCode.LOOP, 2);
        same("FLIP", EdgeCode.FLIP, 3);
        same("LUTZ", EdgeCode.LUTZ, 4);
        same("AXEL", EdgeCode.AXEL, 5);
    }

    // ---- promise 2

    /** "Skaters are numbered from 0, at most 12." "Throws IllegalStateException if there are 12" */
    static void promise02_twelveSkatersAndNoMore() {
        for (int many = 0; many < 12; many++) {
            answers("skater behind " + many, skaters(many), x -> x.skater(), many);
        }
        refuses(STATE, "a 13th skater", skaters(12), x -> x.skater());
        accepts("begin of the 12th", skaters(12), x -> x.begin(11));
        answers("the 12th is last", skaters(12), x -> x.starts(0, 11), 11);
        Story refused = skaters(12).and(refused(x -> x.skater()));
        refuses(STATE, "a 13th skater again", refused, x -> x.skater());
    }

    /** "Throws IllegalStateException if there are 12": for nothing else, and whatever they do. */
    static void promise02_whateverTheSkatersDo() {
        answers("as one skates", skaters(11).begin(10), x -> x.skater(), 11);
        answers("when one has ended", skaters(11).begin(10).end(), x -> x.skater(), 11);
        answers("at 240 seconds", AT_240, x -> x.skater(), 1);
        answers("with 12 elements", OF_12_JUMPS, x -> x.skater(), 1);
        refuses(STATE, "a 13th as one skates", skaters(12).begin(0), x -> x.skater());
        refuses(STATE, "a 13th when one has ended", skaters(12).begin(0).end(), x -> x.skater());
        refuses(STATE, "a 13th when all have ended", allEnded(), x -> x.skater());
    }

    private static Story allEnded() {
        Story story = skaters(12);
        for (int i = 0; i < 12; i++) {
            story = story.begin(i).end();
        }
        return story;
    }

    // ---- promise 3

    /** "IndexOutOfBoundsException: there is no such skater": the numbers on both sides of those there are. */
    static void promise03_skatersThereAre() {
        for (int many = 1; many <= 12; many++) {
            Story story = skaters(many);
            int last = many - 1;
            int next = many;
            accepts("begin 0 of " + many, story, x -> x.begin(0));
            accepts("begin " + last + " of " + many, story, x -> x.begin(last));
            refuses(INDEX, "begin " + next + " of " + many, story, x -> x.begin(next));
            refuses(INDEX, "begin -1 of " + many, story, x -> x.begin(-1));
        }
        for (int skater : outside(0, 11)) {
            refuses(INDEX, "begin " + skater, skaters(12), x -> x.begin(skater));
        }
    }

    /** "Throws IllegalStateException if it began ever": as it goes on, when it ended, when others did behind it. */
    static void promise03_onceForAll() {
        Story two = skaters(2);
        refuses(STATE, "begin of the one that goes on", two.begin(0), x -> x.begin(0));
        refuses(STATE, "begin of an ended one", two.begin(0).end(), x -> x.begin(0));
        refuses(STATE, "begin of an ended one", two.begin(0).jump(AXEL, 1, true).end(), x -> x.begin(0));
        refuses(STATE, "begin of the first", two.begin(0).end().begin(1).end(), x -> x.begin(0));
        refuses(STATE, "begin of the last", two.begin(0).end().begin(1).end(), x -> x.begin(1));
        for (int i = 0; i < 12; i++) {
            int skater = i;
            refuses(STATE, "begin again of " + skater, allEnded(), x -> x.begin(skater));
        }
    }

    /** "Throws IllegalStateException if .. another one has not ended" */
    static void promise03_oneAtATime() {
        Story two = skaters(2);
        refuses(STATE, "begin as the first goes on", two.begin(0), x -> x.begin(1));
        refuses(STATE, "begin as the second goes on", two.begin(1), x -> x.begin(0));
        refuses(STATE, "begin as one stands at 240", AT_240.skaters(1), x -> x.begin(1));
        refuses(STATE, "begin as one has 12 elements", OF_12_JUMPS.skaters(1), x -> x.begin(1));
        accepts("begin when the first has ended", two.begin(0).end(), x -> x.begin(1));
        accepts("begin when the second has ended", two.begin(1).end(), x -> x.begin(0));
        accepts("begin of the 12th after all others", allButTheLast(), x -> x.begin(11));
    }

    private static Story allButTheLast() {
        Story story = skaters(12);
        for (int i = 0; i < 11; i++) {
            story = story.begin(i).end();
        }
        return story;
    }

    /** "of several exceptions it is the first one of the throws clause" */
    static void promise03_whichException() {
        refuses(INDEX, "no such skater as one goes on", skaters(2).begin(0), x -> x.begin(2));
        refuses(INDEX, "no such skater as one goes on", skaters(2).begin(0), x -> x.begin(-1));
        refuses(INDEX, "no such skater when all have ended", begun().end(), x -> x.begin(1));
    }

    /** "LEFT, OUTSIDE, FORWARD as a programme begins", "seconds, from 0, and elements, numbered from 0" */
    static void promise03_eachBeginsAlike() {
        Story second = skaters(2).begin(0).spin(63, 6).turns(STEP, SLIDE).end().begin(1);
        Story third = skaters(3).begin(1).jump(AXEL, 1, true).end().begin(0).turns(THREE).end().begin(2);
        same("where the first begins", begun().told().turn(SLIDE), BEGINS ^ 2);
        same("where the second begins", second.told().turn(SLIDE), BEGINS ^ 2);
        same("where the third begins", third.told().turn(SLIDE), BEGINS ^ 2);
        answers("seconds", second, x -> x.programme(1, 0, SECONDS), 0);
        answers("seconds", third, x -> x.programme(2, 0, SECONDS), 0);
        answers("elements", second, x -> x.end(), 0);
        answers("the first element", second, x -> x.spin(63, 6), 0);
        answers("the first element", third, x -> x.jump(AXEL, 1, false), 0);
        answers("fine", third, x -> x.programme(2, 0, FINE), 0);
        answers("level of features that another programme had", second.spin(63, 6), x -> x.element(1, 0, 0, TURNS), 4);
    }

    // ---- promise 4

    /** "kind: THREE to STEP" */
    static void promise04_kindsOutside() {
        accepts("THREE", begun(), x -> x.turn(THREE));
        accepts("STEP", begun(), x -> x.turn(STEP));
        for (int kind : outside(THREE, STEP)) {
            refuses(ARGUMENT, "turn " + kind, begun(), x -> x.turn(kind));
        }
    }

    /** "To change is to become the other one": each turn from each stand, there and back. */
    static void promise04_eachTurnFromEachStand() {
        for (int i = 0; i < 48; i++) {
            int where = i / 6;
            int kind = i % 6;
            EdgeCode x = standing(where).told();
            same("turn " + kind + " from " + where, x.turn(kind), where ^ CHANGES[kind]);
            same("and back", x.turn(kind), where);
            same("seconds", x.programme(0, 0, SECONDS), 10);
        }
    }

    /** "THREE changes EDGE and WAY, ..": by the numbers of foot, edge and way, from where a programme begins. */
    static void promise04_whatTurnsChange() {
        int left = 4 * EdgeCode.LEFT;
        int right = 4 * EdgeCode.RIGHT;
        int inside = 2 * EdgeCode.INSIDE;
        int outside = 2 * EdgeCode.OUTSIDE;
        answers("THREE", begun(), x -> x.turn(THREE), left + inside + EdgeCode.BACKWARD);
        answers("ROCKER", begun(), x -> x.turn(ROCKER), left + outside + EdgeCode.BACKWARD);
        answers("MOHAWK", begun(), x -> x.turn(MOHAWK), right + outside + EdgeCode.BACKWARD);
        answers("CHOCTAW", begun(), x -> x.turn(CHOCTAW), right + inside + EdgeCode.BACKWARD);
        answers("SLIDE", begun(), x -> x.turn(SLIDE), left + inside + EdgeCode.FORWARD);
        answers("STEP", begun(), x -> x.turn(STEP), right + outside + EdgeCode.FORWARD);
    }

    /** "Throws IllegalStateException if no programme goes on" */
    static void promise04_noneGoesOn() {
        refuses(STATE, "turn without skaters", Story.fresh(), x -> x.turn(THREE));
        refuses(STATE, "turn ahead of a begin", NEVER_BEGUN, x -> x.turn(THREE));
        refuses(STATE, "turn behind an end", ENDED, x -> x.turn(THREE));
        refuses(STATE, "turn between two", ENDED_AND_ANOTHER_LEFT, x -> x.turn(STEP));
    }

    /** "no turn .. begins at 240 seconds or more" */
    static void promise04_at238And240() {
        for (int i = THREE; i <= STEP; i++) {
            int kind = i;
            answers("turn " + kind + " at 238", AT_238, x -> x.turn(kind), AFTER_JUMP ^ CHANGES[kind]);
            refuses(STATE, "turn " + kind + " at 240", AT_240, x -> x.turn(kind));
            refuses(STATE, "turn " + kind + " at 242", AT_242, x -> x.turn(kind));
            refuses(STATE, "turn " + kind + " at 248", AT_248, x -> x.turn(kind));
        }
        answers("seconds at 238", AT_238, x -> x.programme(0, 0, SECONDS), 238);
        answers("seconds behind it", AT_238.turns(STEP), x -> x.programme(0, 0, SECONDS), 240);
    }

    /** "a programme has no more than 240 seconds" with turns: 120 of them, each programme its own. */
    static void promise04_aHundredAndTwentyTurns() {
        Story full = skaters(2).begin(0).times(120, x -> x.turn(SLIDE));
        answers("seconds of 120 turns", full, x -> x.programme(0, 0, SECONDS), 240);
        refuses(STATE, "a 121st turn", full, x -> x.turn(SLIDE));
        answers("end of it", full, x -> x.end(), 0);
        Story second = full.end().begin(1).times(119, x -> x.turn(STEP));
        answers("the second one's 120th", second, x -> x.turn(STEP), BEGINS);
        answers("seconds of the first", second, x -> x.programme(0, 0, SECONDS), 240);
        refuses(STATE, "the second one's 121st", second.turns(STEP), x -> x.turn(STEP));
    }

    /** A turn makes no element, so 12 of these do not forbid it. */
    static void promise04_withTwelveElements() {
        answers("turn behind 12 jumps", OF_12_JUMPS, x -> x.turn(SLIDE), AFTER_JUMP ^ 2);
        answers("turn behind 12 spins", OF_12_SPINS, x -> x.turn(SLIDE), AFTER_SPIN ^ CHANGES[STEP] ^ 2);
        answers("end behind a turn", OF_12_JUMPS.turns(SLIDE), x -> x.end(), 12);
    }

    /** "of several exceptions it is the first one of the throws clause" */
    static void promise04_whichException() {
        for (Story story : new Story[] {Story.fresh(), NEVER_BEGUN, ENDED, AT_240, AT_242}) {
            refuses(ARGUMENT, "turn -1 when none is possible", story, x -> x.turn(-1));
            refuses(ARGUMENT, "turn 6 when none is possible", story, x -> x.turn(6));
        }
    }

    // ---- promise 5

    /** "kind: TOE to AXEL" */
    static void promise05_kindsOutside() {
        accepts("TOE", standing(TAKE_OFFS[TOE]), x -> x.jump(TOE, 1, false));
        accepts("AXEL", begun(), x -> x.jump(AXEL, 1, false));
        for (int where = 0; where < 8; where++) {
            Story story = standing(where);
            refuses(ARGUMENT, "jump -1 from " + where, story, x -> x.jump(-1, 1, false));
            refuses(ARGUMENT, "jump 6 from " + where, story, x -> x.jump(6, 1, true));
        }
        for (int kind : outside(TOE, AXEL)) {
            refuses(ARGUMENT, "jump " + kind, begun(), x -> x.jump(kind, 1, true));
        }
    }

    /** "turns: 1 to 4", for each jump. */
    static void promise05_turnsOutside() {
        for (int i = TOE; i <= AXEL; i++) {
            int kind = i;
            Story story = standing(TAKE_OFFS[kind]);
            for (int turns = 1; turns <= 4; turns++) {
                int told = turns;
                answers("jump " + kind + " of " + told, story, x -> x.jump(kind, told, false), 0);
                answers("turns", story.jump(kind, told, false), x -> x.element(0, 0, 0, TURNS), told);
                answers("kind", story.jump(kind, told, false), x -> x.element(0, 0, 0, KIND), kind);
            }
            for (int turns : outside(1, 4)) {
                refuses(ARGUMENT, "jump " + kind + " of " + turns, story, x -> x.jump(kind, turns, true));
            }
        }
    }

    /** "The take-off is, by FOOT, EDGE and WAY .. Other take-offs are not possible.": each jump from each stand. */
    static void promise05_takeOffs() {
        for (int i = 0; i < 48; i++) {
            int where = i / 6;
            int kind = i % 6;
            Story story = standing(where);
            String what = "jump " + kind + " from " + where;
            if (where == TAKE_OFFS[kind] || where == WRONG_TAKE_OFFS[kind]) {
                answers(what, story, x -> x.jump(kind, 2, false), 0);
                Story jumped = story.jump(kind, 2, false);
                answers(what + ", wrong", jumped, x -> x.element(0, 0, 0, WRONG), where == TAKE_OFFS[kind] ? 0 : 1);
            } else {
                refuses(STATE, what, story, x -> x.jump(kind, 2, false));
                refuses(STATE, what + " with a fall", story, x -> x.jump(kind, 4, true));
            }
        }
    }

    /** "the skater is on RIGHT, OUTSIDE, BACKWARD then", "it takes 4 seconds": behind each jump, fallen or not. */
    static void promise05_landings() {
        for (int i = 0; i < 12; i++) {
            int kind = i / 2;
            boolean isFall = i % 2 == 1;
            Story jumped = standing(TAKE_OFFS[kind]).jump(kind, 4, isFall);
            answers("a step behind jump " + kind, jumped, x -> x.turn(STEP), AFTER_JUMP ^ CHANGES[STEP]);
            answers("seconds behind jump " + kind, jumped, x -> x.programme(0, 0, SECONDS), 10);
            answers("fall of jump " + kind, jumped, x -> x.element(0, 0, 0, FALL), isFall ? 1 : 0);
            answers("fine of jump " + kind, jumped, x -> x.programme(0, 0, FINE), isFall ? 100 : 0);
            answers("another behind jump " + kind, jumped, x -> x.jump(LOOP, 1, false), 1);
        }
        for (int kind = FLIP; kind <= LUTZ; kind++) {
            Story wrong = standing(WRONG_TAKE_OFFS[kind]).jump(kind, 1, false);
            answers("a slide behind a wrong edge", wrong, x -> x.turn(SLIDE), AFTER_JUMP ^ 2);
        }
    }

    /** "Throws IllegalStateException if no programme goes on" */
    static void promise05_noneGoesOn() {
        for (Story story : new Story[] {Story.fresh(), NEVER_BEGUN, ENDED, ENDED_AND_ANOTHER_LEFT}) {
            for (int i = TOE; i <= AXEL; i++) {
                int kind = i;
                refuses(STATE, "jump " + kind, story, x -> x.jump(kind, 1, true));
            }
        }
    }

    /** "no .. element begins at 240 seconds or more": each jump from its own take-off. */
    static void promise05_at238And240() {
        for (int i = TOE; i <= AXEL; i++) {
            int kind = i;
            Story at238 = standing(TAKE_OFFS[kind], 238);
            answers("jump " + kind + " at 238", at238, x -> x.jump(kind, 1, false), 0);
            answers("seconds then", at238.jump(kind, 1, false), x -> x.programme(0, 0, SECONDS), 242);
            refuses(STATE, "jump " + kind + " at 240", standing(TAKE_OFFS[kind], 240), x -> x.jump(kind, 1, true));
        }
        refuses(STATE, "jump at 242", AT_242, x -> x.jump(TOE, 1, true));
        refuses(STATE, "jump at 248", AT_248, x -> x.jump(LUTZ, 1, true));
        answers("236 and 4", standing(AFTER_JUMP, 236).jump(TOE, 1, false), x -> x.programme(0, 0, SECONDS), 240);
        refuses(STATE, "jump behind that", standing(AFTER_JUMP, 236).jump(TOE, 1, false), x -> x.jump(TOE, 1, true));
    }

    /** "elements, numbered from 0, at most 12": of jumps, of spins, of both. */
    static void promise05_twelveElements() {
        for (int many = 0; many < 12; many++) {
            answers("jump behind " + many, toes(many), x -> x.jump(LOOP, 1, true), many);
        }
        refuses(STATE, "a 13th jump", OF_12_JUMPS, x -> x.jump(LOOP, 1, true));
        refuses(STATE, "a jump behind 12 spins", OF_12_SPINS, x -> x.jump(LOOP, 1, true));
        Story eleven = begun().times(11, x -> x.spin(0, 1)).turns(STEP);
        answers("a jump behind 11 spins", eleven, x -> x.jump(LOOP, 1, true), 11);
        refuses(STATE, "a jump behind 11 spins and one", eleven.jump(LOOP, 1, true), x -> x.jump(LOOP, 1, true));
        Story another = OF_12_JUMPS.skaters(1).end().begin(1);
        answers("another programme's first jump", another, x -> x.jump(AXEL, 1, false), 0);
    }

    /** "late, if the seconds are 120 or more as it begins": by the begin, not by the end. */
    static void promise05_lateFrom120() {
        int[] seconds = {6, 116, 118, 120, 122, 238};
        for (int i = 0; i < seconds.length * 6; i++) {
            int at = seconds[i / 6];
            int kind = i % 6;
            Story jumped = standing(TAKE_OFFS[kind], at).jump(kind, 3, false);
            answers("jump " + kind + " at " + at, jumped, x -> x.element(0, 0, 0, LATE), at >= 120 ? 1 : 0);
            double value = FIRST_VALUES[kind][3];
            long due = at >= 120 ? (long) Math.rint(value * 1.1) : (long) value;
            answers("base of " + kind + " at " + at, jumped, x -> x.element(0, 0, 0, BASE), due);
        }
        answers("late at 0", begun().jump(AXEL, 1, false), x -> x.element(0, 0, 0, LATE), 0);
        Story behindSpins = begun().times(11, x -> x.spin(0, 1)).turns(STEP, SLIDE, SLIDE, SLIDE, SLIDE);
        answers("late at 120 by spins", behindSpins.jump(TOE, 1, false), x -> x.element(0, 11, 0, LATE), 1);
        Story second = standing(AFTER_JUMP, 238).jump(TOE, 1, false).skaters(1).end().begin(1);
        answers("another programme's first", second.jump(AXEL, 1, false), x -> x.element(1, 0, 0, LATE), 0);
    }

    /** "of several exceptions it is the first one of the throws clause" */
    static void promise05_whichException() {
        Story noTakeOff = standing(0);
        Story[] stories = {Story.fresh(), NEVER_BEGUN, ENDED, AT_240, AT_242, OF_12_JUMPS, OF_12_SPINS, noTakeOff};
        for (Story story : stories) {
            refuses(ARGUMENT, "jump -1 when none is possible", story, x -> x.jump(-1, 1, true));
            refuses(ARGUMENT, "jump 6 when none is possible", story, x -> x.jump(6, 1, true));
            refuses(ARGUMENT, "no turns when none is possible", story, x -> x.jump(TOE, 0, true));
            refuses(ARGUMENT, "five turns when none is possible", story, x -> x.jump(AXEL, 5, true));
        }
        refuses(ARGUMENT, "both wrong", begun(), x -> x.jump(6, 5, true));
    }

    // ---- promise 6

    /** "features: 0 to 63: the set" */
    static void promise06_featuresOutside() {
        accepts("no features", begun(), x -> x.spin(0, 6));
        accepts("all features", begun(), x -> x.spin(63, 6));
        for (int features : outside(0, 63)) {
            refuses(ARGUMENT, "spin of " + features, begun(), x -> x.spin(features, 6));
        }
    }

    /** "rounds: 1 to 20" */
    static void promise06_roundsOutside() {
        answers("one round", begun(), x -> x.spin(1, 1), 0);
        answers("20 rounds", begun(), x -> x.spin(1, 20), 0);
        answers("level of 20 rounds", begun().spin(7, 20), x -> x.element(0, 0, 0, TURNS), 3);
        for (int rounds : outside(1, 20)) {
            refuses(ARGUMENT, "spin of " + rounds + " rounds", begun(), x -> x.spin(63, rounds));
        }
    }

    /** "Throws IllegalStateException if no programme goes on" */
    static void promise06_noneGoesOn() {
        for (Story story : new Story[] {Story.fresh(), NEVER_BEGUN, ENDED, ENDED_AND_ANOTHER_LEFT}) {
            refuses(STATE, "the least spin", story, x -> x.spin(0, 1));
            refuses(STATE, "the greatest spin", story, x -> x.spin(63, 20));
        }
    }

    /** "no .. element begins at 240 seconds or more" */
    static void promise06_at238And240() {
        answers("spin at 238", AT_238, x -> x.spin(63, 6), 0);
        answers("seconds then", AT_238.spin(63, 6), x -> x.programme(0, 0, SECONDS), 248);
        refuses(STATE, "spin at 240", AT_240, x -> x.spin(63, 6));
        refuses(STATE, "spin at 242", AT_242, x -> x.spin(63, 6));
        refuses(STATE, "spin at 248", AT_248, x -> x.spin(63, 6));
        Story at240 = standing(AFTER_JUMP, 230).spin(0, 1);
        answers("230 and 10", at240, x -> x.programme(0, 0, SECONDS), 240);
        refuses(STATE, "spin behind that", at240, x -> x.spin(63, 6));
    }

    /** "elements, numbered from 0, at most 12": of spins, of jumps, of both. */
    static void promise06_twelveElements() {
        for (int many = 0; many < 12; many++) {
            Story story = begun().times(many, x -> x.spin(0, 1));
            answers("spin behind " + many, story, x -> x.spin(63, 20), many);
        }
        refuses(STATE, "a 13th spin", OF_12_SPINS, x -> x.spin(63, 6));
        refuses(STATE, "a spin behind 12 jumps", OF_12_JUMPS, x -> x.spin(63, 6));
        answers("a spin behind 11 jumps", toes(11), x -> x.spin(63, 6), 11);
        refuses(STATE, "a spin behind 11 jumps and one", toes(11).spin(63, 6), x -> x.spin(63, 6));
        Story another = OF_12_SPINS.skaters(1).end().begin(1);
        answers("another programme's first spin", another, x -> x.spin(1, 6), 0);
    }

    /** "A spin is possible whatever the skater stands on, and takes 10 seconds; .. LEFT, OUTSIDE, BACKWARD then." */
    static void promise06_fromEachStand() {
        for (int where = 0; where < 8; where++) {
            Story story = standing(where);
            answers("spin from " + where, story, x -> x.spin(1, 6), 0);
            answers("a step behind it", story.spin(1, 6), x -> x.turn(STEP), AFTER_SPIN ^ CHANGES[STEP]);
            answers("a slide behind one of level 0", story.spin(0, 1), x -> x.turn(SLIDE), AFTER_SPIN ^ 2);
            answers("seconds", story.spin(1, 6), x -> x.programme(0, 0, SECONDS), 16);
        }
    }

    /** "It makes an element, never late, never with a fall": at 120 seconds, and at the last ones. */
    static void promise06_neverLate() {
        for (int at : new int[] {6, 118, 120, 122, 238}) {
            Story spun = standing(AFTER_JUMP, at).spin(3, 6);
            answers("late at " + at, spun, x -> x.element(0, 0, 0, LATE), 0);
            answers("fall at " + at, spun, x -> x.element(0, 0, 0, FALL), 0);
            answers("base at " + at, spun, x -> x.element(0, 0, 0, BASE), 150);
            answers("fine at " + at, spun, x -> x.programme(0, 0, FINE), 0);
        }
    }

    /** "Its level is 0 with fewer than 6 rounds": of each number of rounds. */
    static void promise06_levelFrom6Rounds() {
        for (int i = 1; i <= 20; i++) {
            int rounds = i;
            int due = rounds < 6 ? 0 : 3;
            answers("level of " + rounds, begun().spin(21, rounds), x -> x.element(0, 0, 0, TURNS), due);
            answers("base of " + rounds, begun().spin(21, rounds), x -> x.element(0, 0, 0, BASE), due == 0 ? 0 : 200);
        }
    }

    /** "how many of its features .., at most 4": of each set. */
    static void promise06_levelAtMost4() {
        for (int i = 0; i <= 63; i++) {
            int features = i;
            int due = Math.min(4, Integer.bitCount(features));
            Story spun = begun().spin(features, 6);
            answers("level of " + features, spun, x -> x.element(0, 0, 0, TURNS), due);
            answers("base of " + features, spun, x -> x.element(0, 0, 0, BASE), FIRST_VALUES[SPIN][due]);
        }
    }

    /** "no earlier spin of the programme with a level above 0 .. had": one of level 0 had nothing. */
    static void promise06_featuresOfLevel0AreNotHad() {
        answers("behind 5 rounds", begun().spin(63, 5).spin(63, 6), x -> x.element(0, 1, 0, TURNS), 4);
        answers("behind 1 round", begun().spin(63, 1).spin(1, 6), x -> x.element(0, 1, 0, TURNS), 1);
        answers("behind 6 rounds", begun().spin(1, 6).spin(1, 6), x -> x.element(0, 1, 0, TURNS), 0);
        Story old = begun().spin(1, 6).spin(1, 6).spin(3, 6);
        answers("one new, behind one of none new", old, x -> x.element(0, 2, 0, TURNS), 1);
        Story none = begun().spin(0, 20).spin(1, 6);
        answers("behind one without features", none, x -> x.element(0, 1, 0, TURNS), 1);
    }

    /** "whether that counts or not": a fourth spin's features are had as well. */
    static void promise06_featuresOfUncountedSpinsAreHad() {
        Story four = begun().spin(0, 1).spin(0, 1).spin(0, 1).spin(1, 6);
        answers("base of the fourth", four, x -> x.element(0, 3, 0, BASE), 0);
        answers("its level", four, x -> x.element(0, 3, 0, TURNS), 1);
        answers("level behind it", four.spin(1, 6), x -> x.element(0, 4, 0, TURNS), 0);
        answers("level behind it, one new", four.spin(3, 6), x -> x.element(0, 4, 0, TURNS), 1);
    }

    /** "(all features that such a spin had, new or not)": also those beyond the fourth. */
    static void promise06_allFeaturesAreHad() {
        for (int feature = 0; feature < 6; feature++) {
            int one = 1 << feature;
            Story six = begun().spin(63, 6).spin(one, 6);
            answers("level of " + one + " behind all six", six, x -> x.element(0, 1, 0, TURNS), 0);
            Story others = begun().spin(63 - one, 6).spin(63, 6);
            answers("level of all behind all but " + one, others, x -> x.element(0, 1, 0, TURNS), 1);
        }
        Story mixed = begun().spin(1, 6).spin(3, 6).spin(3, 6);
        answers("level of old and new", mixed, x -> x.element(0, 1, 0, TURNS), 1);
        answers("level behind it", mixed, x -> x.element(0, 2, 0, TURNS), 0);
        Story several = begun();
        for (int feature = 0; feature < 6; feature++) {
            several = several.spin(1 << feature, 6);
        }
        for (int feature = 0; feature < 6; feature++) {
            int one = 1 << feature;
            answers("level of " + one + " behind six spins", several.spin(one, 6), x -> x.element(0, 6, 0, TURNS), 0);
        }
        Story withJump = begun().spin(1, 6).turns(STEP).jump(TOE, 1, false).spin(1, 6);
        answers("level behind a jump", withJump, x -> x.element(0, 2, 0, TURNS), 0);
    }

    /** "no earlier spin": a later one changes nothing; "of the programme": nor does another programme's. */
    static void promise06_levelsStay() {
        Story later = begun().spin(1, 6).spin(63, 6);
        answers("level of the earlier", later, x -> x.element(0, 0, 0, TURNS), 1);
        Story second = skaters(2).begin(0).spin(63, 6).end().begin(1).spin(15, 6);
        answers("level of another's features", second, x -> x.element(1, 0, 0, TURNS), 4);
        answers("level of the first one's", second, x -> x.element(0, 0, 0, TURNS), 4);
    }

    /** "of several exceptions it is the first one of the throws clause" */
    static void promise06_whichException() {
        for (Story story : new Story[] {Story.fresh(), NEVER_BEGUN, ENDED, AT_240, AT_242, OF_12_JUMPS, OF_12_SPINS}) {
            refuses(ARGUMENT, "features -1 when none is possible", story, x -> x.spin(-1, 1));
            refuses(ARGUMENT, "features 64 when none is possible", story, x -> x.spin(64, 1));
            refuses(ARGUMENT, "no rounds when none is possible", story, x -> x.spin(0, 0));
            refuses(ARGUMENT, "21 rounds when none is possible", story, x -> x.spin(63, 21));
        }
        refuses(ARGUMENT, "both wrong", begun(), x -> x.spin(64, 0));
    }

    // ---- promise 7

    /** "Throws IllegalStateException if none goes on" */
    static void promise07_noneGoesOn() {
        refuses(STATE, "end without skaters", Story.fresh(), x -> x.end());
        refuses(STATE, "end ahead of a begin", NEVER_BEGUN, x -> x.end());
        refuses(STATE, "end behind an end", ENDED, x -> x.end());
        refuses(STATE, "end behind an end of 12", OF_12_JUMPS.end(), x -> x.end());
        refuses(STATE, "end between two", ENDED_AND_ANOTHER_LEFT, x -> x.end());
        refuses(STATE, "end behind all", allEnded(), x -> x.end());
    }

    /** "Returns how many elements it has": of none to 12, jumps and spins. */
    static void promise07_howManyElements() {
        answers("end of none", begun(), x -> x.end(), 0);
        answers("end of turns alone", begun().turns(THREE, STEP), x -> x.end(), 0);
        for (int many = 0; many <= 12; many++) {
            answers("end of jumps", toes(many), x -> x.end(), many);
            answers("end of spins", begun().times(many, x -> x.spin(0, 1)), x -> x.end(), many);
        }
        answers("end of both", begun().jump(AXEL, 1, true).spin(0, 1), x -> x.end(), 2);
        Story refused = OF_12_JUMPS.and(refused(x -> x.spin(0, 1)));
        answers("end behind a refused one", refused, x -> x.end(), 12);
        Story second = OF_12_JUMPS.skaters(1).end().begin(1).jump(AXEL, 1, false);
        answers("end of the second", second, x -> x.end(), 1);
    }

    /** "a skater skates a programme, once for all": when it ended, it is as it was, and the next may begin. */
    static void promise07_whatEndsAndWhatStays() {
        answers("end at 240", AT_240, x -> x.end(), 0);
        answers("end at 248", AT_248, x -> x.end(), 1);
        Story ended = AT_248.end();
        answers("seconds stay", ended, x -> x.programme(0, 0, SECONDS), 248);
        answers("its rank", ended, x -> x.programme(0, 0, RANK), 0);
        answers("its rank ahead of the end", AT_248, x -> x.programme(0, 0, RANK), NONE);
        refuses(STATE, "turn", ended, x -> x.turn(STEP));
        refuses(STATE, "call", ended, x -> x.call(0, 0, 0));
        accepts("the next begins", ENDED_AND_ANOTHER_LEFT, x -> x.begin(1));
        accepts("its components", ended, x -> x.component(0, 0, 0, 40));
    }

    public static void main(String[] args) throws Exception {
        runAll(BoundariesOfProgrammesTest.class, 1, 7);
    }
}
