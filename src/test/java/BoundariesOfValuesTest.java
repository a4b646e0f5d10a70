/** Promises 11 and 12: each sentence of the document that names a boundary case, quoted above its test. */
public final class BoundariesOfValuesTest extends Boundaries {
    /** Skater 0 goes on, with the jump 0, the spin 1 and the jump 2; skater 1 is not begun. */
    private static final Story GOES_ON =
        skaters(2).begin(0).jump(AXEL, 3, false).spin(3, 6).turns(STEP).jump(TOE, 2, true);
    private static final Story HAS_ENDED = GOES_ON.end();

    private static long baseOf(double value, int quarters, boolean isWrong, boolean isLate) {
        double base = quarters == 2 ? Math.rint(value * 0.8) : value;
        base = isWrong ? Math.rint(base * 0.8) : base;
        return (long) (isLate ? Math.rint(base * 1.1) : base);
    }

    // ---- promise 11

    /** "edition: 0 to 2" */
    static void promise11_editions() {
        for (int i = 0; i <= 2; i++) {
            int edition = i;
            answers("value by edition " + edition, GOES_ON, x -> x.value(edition, AXEL, 4, 1), 1250);
        }
        for (int edition : outside(0, 2)) {
            refuses(ARGUMENT, "edition " + edition, GOES_ON, x -> x.value(edition, AXEL, 3, 1));
            refuses(ARGUMENT, "edition " + edition + " of a new object", Story.fresh(), x -> x.value(edition, 0, 1, 1));
        }
    }

    /** "kind: TOE to AXEL, or 6 for spins" */
    static void promise11_kinds() {
        for (int i = TOE; i <= SPIN; i++) {
            int kind = i;
            answers("value of kind " + kind, GOES_ON, x -> x.value(1, kind, 4, 1), FIRST_VALUES[kind][4]);
        }
        for (int kind : outside(TOE, SPIN)) {
            for (int turns = 0; turns <= 4; turns++) {
                int told = turns;
                refuses(ARGUMENT, "kind " + kind, GOES_ON, x -> x.value(0, kind, told, 1));
            }
        }
    }

    /** "turns: 1 to 4; the level, 0 to 4, for spins" */
    static void promise11_turnsAndLevels() {
        for (int i = TOE; i <= AXEL; i++) {
            int kind = i;
            answers("value of 1", GOES_ON, x -> x.value(2, kind, 1, 0), FIRST_VALUES[kind][1]);
            answers("value of 4", GOES_ON, x -> x.value(2, kind, 4, 0), FIRST_VALUES[kind][4]);
            for (int turns : outside(1, 4)) {
                refuses(ARGUMENT, "jump " + kind + " of " + turns, GOES_ON, x -> x.value(0, kind, turns, 1));
            }
        }
        answers("value of the level 0", GOES_ON, x -> x.value(0, SPIN, 0, 1), 0);
        answers("value of the level 4", GOES_ON, x -> x.value(0, SPIN, 4, 1), 270);
        for (int level : outside(0, 4)) {
            refuses(ARGUMENT, "level " + level, GOES_ON, x -> x.value(0, SPIN, level, 1));
        }
    }

    /** "value: 0 to 9999" */
    static void promise11_valuesOutside() {
        for (int told : new int[] {0, 1, 9998, 9999}) {
            answers("value " + told, GOES_ON, x -> x.value(0, AXEL, 3, told), 800);
            answers("what was told", GOES_ON.value(0, AXEL, 3, told), x -> x.value(0, AXEL, 3, 5), told);
            answers("the base then", GOES_ON.value(0, AXEL, 3, told), x -> x.element(0, 0, 0, BASE), told);
            answers("of a level 0", GOES_ON.value(0, SPIN, 0, told), x -> x.value(0, SPIN, 0, 5), told);
        }
        for (int value : outside(0, 9999)) {
            refuses(ARGUMENT, "value " + value, GOES_ON, x -> x.value(0, AXEL, 3, value));
            refuses(ARGUMENT, "value " + value + " of a level", GOES_ON, x -> x.value(0, SPIN, 2, value));
        }
    }

    /** "of several exceptions ..": there is but one, whatever is out of its range. */
    static void promise11_severalOutside() {
        refuses(ARGUMENT, "all", Story.fresh(), x -> x.value(-1, -1, -1, -1));
        refuses(ARGUMENT, "all", GOES_ON, x -> x.value(3, 7, 5, 10000));
        refuses(ARGUMENT, "edition and value", GOES_ON, x -> x.value(3, AXEL, 3, 10000));
        refuses(ARGUMENT, "turns and value", GOES_ON, x -> x.value(0, AXEL, 0, -1));
        refuses(ARGUMENT, "kind and turns, near the last value", GOES_ON, x -> x.value(0, 7, 0, 1));
    }

    /** "at first, in all editions, for 1, 2, 3 and 4 turns: ..; for the levels 0 to 4: .." */
    static void promise11_firstValues() {
        for (int i = 0; i < 3 * 7; i++) {
            int edition = i / 7;
            int kind = i % 7;
            for (int j = kind == SPIN ? 0 : 1; j <= 4; j++) {
                int turns = j;
                String what = "value " + edition + " " + kind + " " + turns;
                answers(what, Story.fresh(), x -> x.value(edition, kind, turns, 0), FIRST_VALUES[kind][turns]);
            }
        }
    }

    /** "Returns what it was": each value is its own, and what was told last is it. */
    static void promise11_whatItWas() {
        EdgeCode x = new EdgeCode();
        for (int round = 0; round < 4; round++) {
            int told = 0;
            for (int i = 0; i < 3 * 7; i++) {
                int kind = i % 7;
                for (int turns = kind == SPIN ? 0 : 1; turns <= 4; turns++) {
                    int was = round == 0 ? FIRST_VALUES[kind][turns] : 3000 * (round - 1) + told;
                    same("value " + told, x.value(i / 7, kind, turns, 3000 * round + told), was);
                    told++;
                }
            }
        }
        Story same = GOES_ON.value(0, AXEL, 3, 800);
        answers("the same again", same, y -> y.value(0, AXEL, 3, 800), 800);
        answers("behind a refused one", GOES_ON.and(refused(y -> y.value(0, AXEL, 3, -1))),
            y -> y.value(0, AXEL, 3, 1), 800);
    }

    /** "(A value told for the level 0 counts as well.)" */
    static void promise11_levelZeroCounts() {
        Story spun = begun().spin(0, 20).spin(63, 5).end().value(1, SPIN, 0, 9999);
        answers("base of no features", spun, x -> x.element(0, 0, 1, BASE), 9999);
        answers("base of few rounds", spun, x -> x.element(0, 1, 1, BASE), 9999);
        answers("base by another edition", spun, x -> x.element(0, 0, 0, BASE), 0);
        answers("score", spun.grades(0, 0, 5, 5, 5), x -> x.element(0, 0, 1, SCORE), 9999 + 5000);
        answers("elements together", spun, x -> x.programme(0, 1, ELEMENTS), 2 * 9999);
        Story fourth = begun().times(4, x -> x.spin(0, 1)).value(1, SPIN, 0, 9999);
        answers("base of a third", fourth, x -> x.element(0, 2, 1, BASE), 9999);
        answers("base of a fourth", fourth, x -> x.element(0, 3, 1, BASE), 0);
    }

    /** A value may be told at any time, and old programmes are by it then. */
    static void promise11_atAnyTime() {
        answers("of a new object", Story.fresh(), x -> x.value(0, TOE, 1, 0), 40);
        answers("base of one that goes on", GOES_ON.value(2, AXEL, 3, 7), x -> x.element(0, 0, 2, BASE), 7);
        answers("base of one that ended", HAS_ENDED.value(2, AXEL, 3, 7), x -> x.element(0, 0, 2, BASE), 7);
        answers("by another edition", HAS_ENDED.value(2, AXEL, 3, 7), x -> x.element(0, 0, 1, BASE), 800);
        answers("its total", HAS_ENDED.value(2, AXEL, 3, 7), x -> x.programme(0, 2, TOTAL), 7 + 150 + 130 - 100);
        answers("told ahead", Story.fresh().value(0, AXEL, 1, 9).skaters(1).begin(0).jump(AXEL, 1, false),
            x -> x.element(0, 0, 0, BASE), 9);
    }

    // ---- promise 12

    /** "there is no such skater" */
    static void promise12_skaters() {
        answers("skater 0", GOES_ON, x -> x.element(0, 0, 0, KIND), AXEL);
        Story last = skaters(12).begin(11).jump(AXEL, 2, false);
        answers("skater 11", last, x -> x.element(11, 0, 0, TURNS), 2);
        for (int skater : outside(0, 1)) {
            refuses(INDEX, "element of skater " + skater, GOES_ON, x -> x.element(skater, 0, 0, KIND));
        }
        for (int skater : outside(0, 11)) {
            refuses(INDEX, "element of skater " + skater + " of 12", last, x -> x.element(skater, 0, 0, KIND));
        }
        refuses(INDEX, "element without skaters", Story.fresh(), x -> x.element(0, 0, 0, KIND));
    }

    /** "there is no such .. element": of none to 12 elements, of one not begun, going on, or ended. */
    static void promise12_elements() {
        for (int many = 0; many <= 12; many++) {
            for (Story story : new Story[] {toes(many), toes(many).end()}) {
                int last = many - 1;
                int next = many;
                if (many > 0) {
                    answers("the first of " + many, story, x -> x.element(0, 0, 0, TURNS), 1);
                    answers("the last of " + many, story, x -> x.element(0, last, 0, TURNS), 1);
                }
                refuses(INDEX, "element " + next + " of " + many, story, x -> x.element(0, next, 0, TURNS));
                refuses(INDEX, "element -1 of " + many, story, x -> x.element(0, -1, 0, TURNS));
            }
        }
        for (int element : outside(0, 11)) {
            refuses(INDEX, "element " + element, toes(12), x -> x.element(0, element, 0, KIND));
        }
        refuses(INDEX, "element of one not begun", GOES_ON, x -> x.element(1, 0, 0, KIND));
        refuses(INDEX, "element of an empty one", begun().end(), x -> x.element(0, 0, 0, KIND));
    }

    /** "edition: 0 to 2" */
    static void promise12_editions() {
        for (int i = 0; i <= 2; i++) {
            int edition = i;
            answers("base by " + edition, GOES_ON, x -> x.element(0, 0, edition, BASE), 800);
            Story told = GOES_ON.value(edition, AXEL, 3, 3);
            answers("base by " + edition, told, x -> x.element(0, 0, edition, BASE), 3);
            answers("base by the next", told, x -> x.element(0, 0, (edition + 1) % 3, BASE), 800);
        }
        for (int edition : outside(0, 2)) {
            for (int i = KIND; i <= SCORE; i++) {
                int what = i;
                refuses(ARGUMENT, "edition " + edition + " for " + what, GOES_ON, x -> x.element(0, 0, edition, what));
            }
        }
    }

    /** "what: 0 to 7" */
    static void promise12_whats() {
        Story graded = GOES_ON.call(0, 0, 1).end().grades(0, 0, 1, 1, 1).grades(0, 1, -1, -1, -1);
        int[][] dues = {{AXEL, 3, 1, 0, 0, 0, 800, 880}, {SPIN, 2, 0, 0, 0, 0, 150, 135}, {TOE, 2, 0, 0, 0, 1, 130, 130}};
        for (int i = 0; i < 24; i++) {
            int element = i / 8;
            int what = i % 8;
            answers("what " + what, graded, x -> x.element(0, element, 2, what), dues[element][what]);
        }
        for (int what : outside(KIND, SCORE)) {
            for (int i = 0; i < 3; i++) {
                int element = i;
                refuses(ARGUMENT, "what " + what, graded, x -> x.element(0, element, 0, what));
            }
        }
    }

    /** "of several exceptions it is the first one of the throws clause" */
    static void promise12_whichException() {
        for (Story story : new Story[] {skaters(2), GOES_ON, HAS_ENDED}) {
            refuses(INDEX, "skater and edition", story, x -> x.element(2, 0, 3, 0));
            refuses(INDEX, "skater and what", story, x -> x.element(-1, 0, 0, 8));
            refuses(INDEX, "element and edition", story, x -> x.element(0, 3, -1, 0));
            refuses(INDEX, "element and what", story, x -> x.element(0, -1, 0, -1));
            refuses(INDEX, "one not begun, and what", story, x -> x.element(1, 0, 0, 8));
            refuses(INDEX, "all of them", story, x -> x.element(MAX, MIN, MAX, MIN));
        }
        refuses(ARGUMENT, "edition and what", GOES_ON, x -> x.element(0, 0, 3, 8));
    }

    /** "with 3 or 4 quarters short the value of one turn less, 0 of one turn; otherwise that of its turns" */
    static void promise12_baseByQuarters() {
        for (int i = 0; i < 24 * 5; i++) {
            int kind = i / 20;
            int turns = 1 + i / 5 % 4;
            int quarters = i % 5;
            Story jumped = standing(TAKE_OFFS[kind]).jump(kind, turns, false).call(0, 0, quarters);
            int value = FIRST_VALUES[kind][quarters >= 3 ? turns - 1 : turns];
            String what = "base of " + kind + " of " + turns + " with " + quarters;
            answers(what, jumped, x -> x.element(0, 0, 0, BASE), baseOf(value, quarters, false, false));
            answers("its turns", jumped, x -> x.element(0, 0, 0, TURNS), turns);
            answers("its quarters", jumped, x -> x.element(0, 0, 0, QUARTERS), quarters);
        }
    }

    /** "0 of one turn", whatever values were told of the jump, and of the one ahead of it in the table. */
    static void promise12_baseOfOneTurnFarTooShort() {
        for (int i = TOE; i <= AXEL; i++) {
            int kind = i;
            Story story = standing(TAKE_OFFS[kind]).jump(kind, 1, false);
            for (int turns = 1; turns <= 4; turns++) {
                for (int told = TOE; told <= SPIN; told++) {
                    story = story.value(0, told, turns, 5000 + turns);
                }
            }
            Story all = story.value(0, SPIN, 0, 6000);
            answers("base with 2", all.call(2, 0, 2), x -> x.element(0, 0, 0, BASE), 4001);
            answers("base with 3", all.call(2, 0, 3), x -> x.element(0, 0, 0, BASE), 0);
            answers("base with 4", all.call(2, 0, 4), x -> x.element(0, 0, 0, BASE), 0);
            Story graded = all.call(2, 0, 3).end().grades(0, 0, 5, 5, 5);
            answers("score with 3", graded, x -> x.element(0, 0, 0, SCORE), 0);
        }
    }

    /** "Then with 2 quarters .., then with a wrong EDGE .., then, if it is late ..": all of them together. */
    static void promise12_baseByAllOfThem() {
        for (int i = 0; i < 2 * 4 * 5 * 4; i++) {
            int kind = i % 2 == 0 ? FLIP : LUTZ;
            int turns = 1 + i / 2 % 4;
            int quarters = i / 8 % 5;
            boolean isWrong = i / 40 % 2 == 1;
            boolean isLate = i / 80 == 1;
            int where = isWrong ? WRONG_TAKE_OFFS[kind] : TAKE_OFFS[kind];
            Story jumped = standing(where, isLate ? 120 : 118).jump(kind, turns, false).call(1, 0, quarters);
            int value = FIRST_VALUES[kind][quarters >= 3 ? turns - 1 : turns];
            String what = "base of " + kind + " of " + turns + " with " + quarters + " " + isWrong + " " + isLate;
            answers(what, jumped, x -> x.element(0, 0, 0, BASE), baseOf(value, quarters, isWrong, isLate));
        }
    }

    /** "rounded by Math.rint, ahead of the next one": of each value, from 0 to 9999. */
    static void promise12_roundingOfEachValue() {
        for (int i = 0; i < 8; i++) {
            int quarters = i % 2 == 0 ? 0 : 2;
            boolean isWrong = i / 2 % 2 == 1;
            boolean isLate = i / 4 == 1;
            Story story = standing(isWrong ? 1 : 3, isLate ? 120 : 6).jump(LUTZ, 4, false).call(0, 0, quarters);
            EdgeCode x = story.told();
            int calls = story.calls();
            for (int value = 0; value <= 9999; value++) {
                if (calls > Story.MOST_CALLS - 2) {
                    x = story.told();
                    calls = story.calls();
                }
                x.value(1, LUTZ, 4, value);
                same("base of " + value, x.element(0, 0, 1, BASE), baseOf(value, quarters, isWrong, isLate));
                calls += 2;
            }
        }
    }

    /** "if two jumps of the programme ahead of it are of the same kind and turns": the third one. */
    static void promise12_likeJumps() {
        int[] dues = {40, 40, 0, 0, 0, 0, 0, 0, 0, 0, 0, 0};
        for (int i = 0; i < 12; i++) {
            int element = i;
            answers("base of toe jump " + element, toes(12), x -> x.element(0, element, 0, BASE), dues[element]);
        }
        Story mixed = standing(AFTER_JUMP).jump(TOE, 1, false).jump(TOE, 2, false).jump(LOOP, 1, false)
            .jump(TOE, 1, false).jump(TOE, 2, false).jump(TOE, 1, false).jump(TOE, 2, false);
        int[] bases = {40, 130, 50, 40, 130, 0, 0};
        for (int i = 0; i < 7; i++) {
            int element = i;
            answers("base of " + element, mixed, x -> x.element(0, element, 0, BASE), bases[element]);
        }
        for (int i = TOE; i <= AXEL; i++) {
            int kind = i;
            Story story = begun();
            for (int j = 0; j < 3; j++) {
                story = story.spin(0, 1).turns(toTakeOff(kind)).jump(kind, 3, false);
            }
            answers("base of a second " + kind, story, x -> x.element(0, 3, 0, BASE), FIRST_VALUES[kind][3]);
            answers("base of a third " + kind, story, x -> x.element(0, 5, 0, BASE), 0);
        }
    }

    /** The turns from where a spin ends to where a jump takes off. */
    private static int[] toTakeOff(int kind) {
        for (int turn = THREE; turn <= STEP; turn++) {
            if ((AFTER_SPIN ^ CHANGES[turn]) == TAKE_OFFS[kind]) {
                return new int[] {turn};
            }
        }
        return new int[0];
    }

    /** "(as they were skated, whether these count or not)": a wrong edge, a fall, quarters, no base make none unlike. */
    static void promise12_likeJumpsAsTheyWereSkated() {
        Story short2 = standing(AFTER_JUMP).jump(TOE, 3, true).call(0, 0, 4).jump(TOE, 3, false).call(0, 1, 4);
        answers("of the turns they came to", short2.jump(TOE, 2, false), x -> x.element(0, 2, 0, BASE), 130);
        answers("of the turns they had", short2.jump(TOE, 3, false), x -> x.element(0, 2, 0, BASE), 0);
        Story wrong = standing(1).jump(LUTZ, 1, false).spin(0, 1).jump(LUTZ, 1, false).spin(0, 1).jump(LUTZ, 1, false);
        answers("the second, one with a wrong edge", wrong, x -> x.element(0, 2, 0, BASE), 60);
        answers("the third, one with a wrong edge", wrong, x -> x.element(0, 4, 0, BASE), 0);
        Story uncounted = toes(3).jump(TOE, 1, true).call(0, 2, 4).call(0, 3, 4);
        answers("a third one, called short", uncounted, x -> x.element(0, 2, 0, BASE), 0);
        Story beyondSeven = standing(AFTER_JUMP);
        for (int i = 0; i < 8; i++) {
            beyondSeven = beyondSeven.jump(i % 2 == 0 ? TOE : LOOP, 1 + i / 2, false);
        }
        answers("base of an eighth that is like none", beyondSeven, x -> x.element(0, 7, 0, BASE), 0);
        Story second = toes(2).skaters(1).end().begin(1).turns(MOHAWK).jump(TOE, 1, false);
        answers("another programme's", second, x -> x.element(1, 0, 0, BASE), 40);
    }

    /** "or seven jumps, whether they count or not, are ahead of it": the eighth one; spins are not among them. */
    static void promise12_sevenJumps() {
        Story unlike = standing(AFTER_JUMP);
        for (int i = 0; i < 8; i++) {
            unlike = unlike.jump(i % 2 == 0 ? TOE : LOOP, 1 + i / 2, false);
        }
        Story eight = unlike;
        for (int i = 0; i < 8; i++) {
            int element = i;
            int due = i == 7 ? 0 : FIRST_VALUES[i % 2 == 0 ? TOE : LOOP][1 + i / 2];
            answers("base of jump " + element, eight, x -> x.element(0, element, 0, BASE), due);
        }
        answers("base of the seventh behind like ones", toes(6).jump(LOOP, 1, false),
            x -> x.element(0, 6, 0, BASE), 50);
        answers("base of the eighth behind like ones", toes(7).jump(LOOP, 1, false),
            x -> x.element(0, 7, 0, BASE), 0);
        Story withSpins = toes(5).spin(0, 1).spin(0, 1).spin(0, 1).spin(0, 1).turns(STEP).jump(LOOP, 1, false);
        answers("base of the sixth behind four spins", withSpins, x -> x.element(0, 9, 0, BASE), 50);
        answers("and of the seventh", withSpins.jump(LOOP, 2, false), x -> x.element(0, 10, 0, BASE), 170);
        answers("and of the eighth", withSpins.jump(LOOP, 2, false).jump(LOOP, 3, false),
            x -> x.element(0, 11, 0, BASE), 0);
        Story second = toes(7).skaters(1).end().begin(1).jump(AXEL, 1, false);
        answers("another programme's", second, x -> x.element(1, 0, 0, BASE), 110);
    }

    /** "it is 0, if three spins are ahead of it": the fourth one; jumps are not among them. */
    static void promise12_threeSpins() {
        Story spins = begun().spin(1, 6).spin(2, 6).spin(4, 6).spin(8, 6).spin(16, 6);
        int[] dues = {120, 120, 120, 0, 0};
        for (int i = 0; i < 5; i++) {
            int element = i;
            answers("base of spin " + element, spins, x -> x.element(0, element, 0, BASE), dues[element]);
            answers("level of spin " + element, spins, x -> x.element(0, element, 0, TURNS), 1);
        }
        answers("behind three of level 0", begun().times(3, x -> x.spin(0, 1)).spin(1, 6),
            x -> x.element(0, 3, 0, BASE), 0);
        answers("the third behind eight jumps", toes(8).spin(1, 6).spin(2, 6).spin(4, 6),
            x -> x.element(0, 10, 0, BASE), 120);
        answers("the fourth behind eight jumps", toes(8).spin(1, 6).spin(2, 6).spin(4, 6).spin(8, 6),
            x -> x.element(0, 11, 0, BASE), 0);
        Story second = spins.skaters(1).end().begin(1).spin(1, 6);
        answers("another programme's", second, x -> x.element(1, 0, 0, BASE), 120);
    }

    /** "The base of a spin is the value of its level": never by 8 or 11 tenths. */
    static void promise12_baseOfASpin() {
        for (int at : new int[] {6, 120, 238}) {
            for (int level = 0; level <= 4; level++) {
                Story spun = standing(0, at).spin((1 << level) - 1, 6);
                answers("base of level " + level, spun, x -> x.element(0, 0, 0, BASE), FIRST_VALUES[SPIN][level]);
            }
        }
        EdgeCode x = begun().spin(3, 6).told();
        for (int value = 0; value <= 200; value++) {
            x.value(0, SPIN, 2, 49 * value);
            same("base", x.element(0, 0, 0, BASE), 49 * value);
        }
    }

    /**
     * "its base, and Math.rint of: its base as a double times the trimmed mean of its grades by 10.0": of each base.
     * "(first times, then by)": some scores of the last panels would be others, if it were first by 10.0.
     */
    static void promise12_scoreOfEachBase() {
        int[][] panels = {{1, 1, 1}, {-1, -1, -1}, {5, 5, 5}, {-5, -5, -5}, {0, 1, 1, 5}, {-2, 0, 1, 1, 4, 4, -3},
            {0, 0, 1, 0, 1}, {-1, 0, 0, -1, 0, 0}, {3, -4, 1, 0, 2, -1}, {0, 1, 2, 2, 5}, {0, -1, -2, -2, -5},
            {0, 3, 4, 5}, {0, 2, 3, 3, 3, 5}, {0, 3, 3, 3, 4, 4, 5}};
        for (int[] panel : panels) {
            Story story = begun().jump(AXEL, 2, false).end().grades(0, 0, panel);
            EdgeCode x = story.told();
            int calls = story.calls();
            for (int value = 0; value <= 9999; value++) {
                if (calls > Story.MOST_CALLS - 2) {
                    x = story.told();
                    calls = story.calls();
                }
                x.value(0, AXEL, 2, value);
                same("score of " + value, x.element(0, 0, 0, SCORE), scoreOf(value, panel));
                calls += 2;
            }
        }
    }

    /** Halves of a score go to the even one, on both sides of 0. */
    static void promise12_halvesOfAScore() {
        int[] values = {5, 15, 25, 35, 45};
        int[] more = {5, 17, 27, 39, 49};
        int[] less = {5, 13, 23, 31, 41};
        for (int i = 0; i < values.length; i++) {
            Story story = begun().jump(AXEL, 1, false).end().value(0, AXEL, 1, values[i]);
            answers("score, more", story.grades(0, 0, 1, 1, 1), x -> x.element(0, 0, 0, SCORE), more[i]);
            answers("score, less", story.grades(0, 0, -1, -1, -1), x -> x.element(0, 0, 0, SCORE), less[i]);
        }
    }

    /** What counts nothing scores nothing, whatever its grades are; and of a base of 0 nothing is taken. */
    static void promise12_scoreOfNoBase() {
        Story toes = toes(3).end();
        answers("score of an uncounted jump", toes.grades(0, 2, 5, 5, 5), x -> x.element(0, 2, 0, SCORE), 0);
        answers("score of an uncounted jump", toes.grades(0, 2, -5, -5, -5), x -> x.element(0, 2, 0, SCORE), 0);
        answers("score of the second", toes.grades(0, 1, -5, -5, -5), x -> x.element(0, 1, 0, SCORE), 20);
        Story spin = begun().spin(0, 1).end();
        answers("score of a level 0", spin.grades(0, 0, 5, 5, 5), x -> x.element(0, 0, 0, SCORE), 0);
        answers("score of a level 0", spin.grades(0, 0, -5, -5, -5), x -> x.element(0, 0, 0, SCORE), 0);
    }

    public static void main(String[] args) throws Exception {
        runAll(BoundariesOfValuesTest.class, 11, 12);
    }
}
