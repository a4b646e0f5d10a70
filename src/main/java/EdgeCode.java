/** Skating told in code: programmes of turns, jumps and spins, their judging, and who is ranked where. */
public final class EdgeCode {
    public static final int NONE = -1;
    public static final int LEFT = 0, RIGHT = 1, INSIDE = 0, OUTSIDE = 1, FORWARD = 0, BACKWARD = 1;
    public static final int THREE = 0, ROCKER = 1, MOHAWK = 2, CHOCTAW = 3, SLIDE = 4, STEP = 5;
    public static final int TOE = 0, SALCHOW = 1, LOOP = 2, FLIP = 3, LUTZ = 4, AXEL = 5;

    private static final int SPIN = 6;
    private static final int SKATERS = 12, ELEMENTS = 12, EDITIONS = 3;
    private static final int CALLERS = 3, JUDGES = 7, COMPONENTS = 3;
    private static final int MOST_TURNS = 4, MOST_LEVEL = 4, MOST_QUARTERS = 4;
    private static final int MOST_FEATURES = 63, MOST_ROUNDS = 20;
    private static final int MOST_GRADE = 5, MOST_COMPONENT = 40, MOST_VALUE = 9999;
    private static final int MOST_SECONDS = 240, LATE_SECONDS = 120;
    private static final int TURN_SECONDS = 2, JUMP_SECONDS = 4, SPIN_SECONDS = 10;
    private static final int COUNTED_JUMPS = 7, COUNTED_LIKE_JUMPS = 2, COUNTED_SPINS = 3;
    private static final int LEVEL_ROUNDS = 6;

    /** How many values a kind has: for 0 to 4 turns or levels. */
    private static final int VALUE_ROW = 5;
    /** By kind, then by turns or level; 0 turns are what is left of a single jump that is far too short. */
    private static final int[] FIRST_VALUES = {
        0, 40, 130, 420, 950,
        0, 40, 130, 430, 970,
        0, 50, 170, 490, 1050,
        0, 50, 180, 530, 1100,
        0, 60, 210, 590, 1150,
        0, 110, 330, 800, 1250,
        0, 120, 150, 200, 270,
    };

    private final Programme[] programmes = new Programme[SKATERS];
    private final Edition[] editions = new Edition[EDITIONS];
    /** Filled anew by each call that asks for ranks, so that none of these makes an array. */
    private final int[] rankedTotals = new int[SKATERS];
    private final int[] rankedElementScores = new int[SKATERS];
    private int skaters = 0;
    private Programme goingOn = null;

    public EdgeCode() {
        for (int i = 0; i < editions.length; i++) {
            editions[i] = new Edition();
        }
    }

    // ---- programmes

    public int skater() throws IllegalStateException {
        if (skaters < 0 || skaters >= programmes.length) {
            throw new IllegalStateException("there are 12 skaters");
        }
        int number = skaters;
        programmes[number] = new Programme();
        skaters = number + 1;
        return number;
    }

    public void begin(int skater) throws IndexOutOfBoundsException, IllegalStateException {
        Programme programme = programmeOf(skater);
        if (programme == null) {
            throw new IndexOutOfBoundsException("no such skater");
        }
        if (goingOn != null || programme.hasBegun) {
            throw new IllegalStateException("it began, or another one goes on");
        }
        programme.hasBegun = true;
        goingOn = programme;
    }

    public int turn(int kind) throws IllegalArgumentException, IllegalStateException {
        if (!isIn(kind, THREE, STEP)) {
            throw new IllegalArgumentException("no such turn");
        }
        if (goingOn == null || !goingOn.hasTime()) {
            throw new IllegalStateException("no programme goes on, or its time is over");
        }
        return goingOn.skateTurn(kind);
    }

    public int jump(int kind, int turns, boolean isFall) throws IllegalArgumentException, IllegalStateException {
        if (!isIn(kind, TOE, AXEL) || !isIn(turns, 1, MOST_TURNS)) {
            throw new IllegalArgumentException("no such jump");
        }
        if (goingOn == null || !goingOn.hasRoom() || !goingOn.canTakeOff(kind)) {
            throw new IllegalStateException("no programme goes on, it has no room, or no such take-off");
        }
        return goingOn.skateJump(kind, turns, isFall);
    }

    public int spin(int features, int rounds) throws IllegalArgumentException, IllegalStateException {
        if (!isIn(features, 0, MOST_FEATURES) || !isIn(rounds, 1, MOST_ROUNDS)) {
            throw new IllegalArgumentException("no such spin");
        }
        if (goingOn == null || !goingOn.hasRoom()) {
            throw new IllegalStateException("no programme goes on, or it has no room");
        }
        return goingOn.skateSpin(features, rounds);
    }

    public int end() throws IllegalStateException {
        if (goingOn == null) {
            throw new IllegalStateException("no programme goes on");
        }
        Programme ended = goingOn;
        ended.hasEnded = true;
        goingOn = null;
        return ended.count;
    }

    // ---- callers, judges

    public int call(int caller, int element, int quarters)
            throws IndexOutOfBoundsException, IllegalArgumentException, IllegalStateException {
        Element called = goingOn == null ? null : goingOn.elementAt(element);
        if (!isIn(caller, 0, CALLERS - 1) || goingOn != null && called == null) {
            throw new IndexOutOfBoundsException("no such caller or element");
        }
        if (!isIn(quarters, 0, MOST_QUARTERS)) {
            throw new IllegalArgumentException("no such quarters");
        }
        if (called == null || called.kind == SPIN) {
            throw new IllegalStateException("no programme goes on, or the element is a spin");
        }
        called.calls.tell(caller, quarters);
        return called.quarters();
    }

    public void grade(int judge, int skater, int element, int grade)
            throws IndexOutOfBoundsException, IllegalArgumentException, IllegalStateException {
        Programme programme = programmeOf(skater);
        Element graded = programme == null ? null : programme.elementAt(element);
        if (!isIn(judge, 0, JUDGES - 1) || programme == null || graded == null) {
            throw new IndexOutOfBoundsException("no such judge, skater or element");
        }
        if (!isIn(grade, -MOST_GRADE, MOST_GRADE)) {
            throw new IllegalArgumentException("no such grade");
        }
        if (!programme.hasEnded) {
            throw new IllegalStateException("the programme has not ended");
        }
        graded.grades.tell(judge, grade);
    }

    public void component(int judge, int skater, int component, int quarters)
            throws IndexOutOfBoundsException, IllegalArgumentException, IllegalStateException {
        Programme programme = programmeOf(skater);
        Votes votes = programme == null ? null : programme.componentAt(component);
        if (!isIn(judge, 0, JUDGES - 1) || programme == null || votes == null) {
            throw new IndexOutOfBoundsException("no such judge, skater or component");
        }
        if (!isIn(quarters, 0, MOST_COMPONENT)) {
            throw new IllegalArgumentException("no such quarters");
        }
        if (!programme.hasEnded) {
            throw new IllegalStateException("the programme has not ended");
        }
        votes.tell(judge, quarters);
    }

    // ---- values, what is asked

    public int value(int edition, int kind, int turns, int value) throws IllegalArgumentException {
        Edition told = editionAt(edition);
        if (told == null || !Edition.hasValue(kind, turns) || !isIn(value, 0, MOST_VALUE)) {
            throw new IllegalArgumentException("no such edition, jump, level or value");
        }
        return told.replace(kind, turns, value);
    }

    public int element(int skater, int element, int edition, int what)
            throws IndexOutOfBoundsException, IllegalArgumentException {
        Programme programme = programmeOf(skater);
        Element asked = programme == null ? null : programme.elementAt(element);
        if (asked == null) {
            throw new IndexOutOfBoundsException("no such skater or element");
        }
        Edition by = editionAt(edition);
        if (by == null || !isIn(what, 0, 7)) {
            throw new IllegalArgumentException("no such edition or question");
        }
        switch (what) {
            case 0: return asked.kind;
            case 1: return asked.turns;
            case 2: return asked.quarters();
            case 3: return asked.isWrongEdge ? 1 : 0;
            case 4: return asked.isLate ? 1 : 0;
            case 5: return asked.isFall ? 1 : 0;
            case 6: return asked.baseBy(by);
            default: return asked.scoreBy(by);
        }
    }

    public int programme(int skater, int edition, int what)
            throws IndexOutOfBoundsException, IllegalArgumentException {
        Programme asked = programmeOf(skater);
        if (asked == null) {
            throw new IndexOutOfBoundsException("no such skater");
        }
        Edition by = editionAt(edition);
        if (by == null || !isIn(what, 0, 5)) {
            throw new IllegalArgumentException("no such edition or question");
        }
        switch (what) {
            case 0: return asked.elementScoresBy(by);
            case 1: return asked.componentScores();
            case 2: return asked.fine();
            case 3: return asked.totalOf(asked.elementScoresBy(by));
            case 4: return asked.seconds;
            default:
                fillRanking(by);
                return rankOf(skater);
        }
    }

    public int starts(int edition, int place) throws IllegalArgumentException {
        Edition by = editionAt(edition);
        if (by == null || !isIn(place, 0, SKATERS - 1)) {
            throw new IllegalArgumentException("no such edition or place");
        }
        fillRanking(by);
        int ranked = howManyRanked();
        return place < ranked ? skaterOfRank(ranked - 1 - place) : unrankedSkater(place - ranked);
    }

    public int bias(int judge) throws IndexOutOfBoundsException {
        if (!isIn(judge, 0, JUDGES - 1)) {
            throw new IndexOutOfBoundsException("no such judge");
        }
        // The document tells one running sum: a sum by programmes would round otherwise.
        double sum = 0.0;
        for (Programme programme : programmes) {
            if (programme != null) {
                sum = programme.addBias(judge, sum);
            }
        }
        return nearest(100.0 * sum);
    }

    public boolean addsUp() {
        for (Programme programme : programmes) {
            for (Edition edition : editions) {
                if (programme != null && edition != null && !programme.isSumRight(edition)) {
                    return false;
                }
            }
        }
        return true;
    }

    private static boolean isIn(int number, int least, int greatest) {
        return number >= least && number <= greatest;
    }

    /** What Math.rint answers (a half goes to the even neighbour), for numbers far below those of int. */
    private static int nearest(double number) {
        int whole = (int) number;
        double rest = number - (double) whole;
        boolean isOdd = (whole & 1) != 0;
        if (rest > 0.5 || rest == 0.5 && isOdd) {
            return whole + 1;
        }
        if (rest < -0.5 || rest == -0.5 && isOdd) {
            return whole - 1;
        }
        return whole;
    }

    /** Null if there is no such skater. */
    private Programme programmeOf(int skater) {
        return skater >= 0 && skater < programmes.length ? programmes[skater] : null;
    }

    /** Null if there is no such edition. */
    private Edition editionAt(int edition) {
        return edition >= 0 && edition < editions.length ? editions[edition] : null;
    }

    /** NONE tells who is not ranked, as a total is 0 at least. */
    private void fillRanking(Edition edition) {
        for (int i = 0; i < rankedTotals.length && i < rankedElementScores.length; i++) {
            Programme programme = programmeOf(i);
            if (programme != null && programme.hasEnded) {
                rankedElementScores[i] = programme.elementScoresBy(edition);
                rankedTotals[i] = programme.totalOf(rankedElementScores[i]);
            } else {
                rankedTotals[i] = NONE;
                rankedElementScores[i] = 0;
            }
        }
    }

    private boolean isRankPlace(int skater) {
        return skater >= 0 && skater < rankedTotals.length && skater < rankedElementScores.length;
    }

    private boolean isRanked(int skater) {
        return isRankPlace(skater) && rankedTotals[skater] != NONE;
    }

    private boolean isAhead(int one, int other) {
        if (!isRanked(one) || !isRanked(other)) {
            return false;
        }
        if (rankedTotals[one] != rankedTotals[other]) {
            return rankedTotals[one] > rankedTotals[other];
        }
        if (rankedElementScores[one] != rankedElementScores[other]) {
            return rankedElementScores[one] > rankedElementScores[other];
        }
        return one < other;
    }

    private int rankOf(int skater) {
        if (!isRanked(skater)) {
            return NONE;
        }
        int rank = 0;
        for (int i = 0; i < SKATERS; i++) {
            if (isAhead(i, skater)) {
                rank++;
            }
        }
        return rank;
    }

    private int howManyRanked() {
        int many = 0;
        for (int i = 0; i < SKATERS; i++) {
            if (isRanked(i)) {
                many++;
            }
        }
        return many;
    }

    private int skaterOfRank(int rank) {
        for (int i = 0; i < SKATERS; i++) {
            if (isRanked(i) && rankOf(i) == rank) {
                return i;
            }
        }
        return NONE;
    }

    /** The skater that has so many others, not ranked either, ahead by numbers. */
    private int unrankedSkater(int ahead) {
        int passed = 0;
        for (int i = 0; i < SKATERS; i++) {
            if (programmeOf(i) != null && !isRanked(i)) {
                if (passed == ahead) {
                    return i;
                }
                passed++;
            }
        }
        return NONE;
    }

    /** Numbers that callers or judges told, each at most one; callers leave the seats behind theirs empty. */
    private static final class Votes {
        private final int[] numbers = new int[JUDGES];
        private final boolean[] isTold = new boolean[JUDGES];
        private int count = 0;
        private int sum = 0;
        private int least = 0;
        private int greatest = 0;

        private boolean isSeat(int voter) {
            return voter >= 0 && voter < numbers.length && voter < isTold.length;
        }

        void tell(int voter, int number) {
            if (!isSeat(voter)) {
                return;
            }
            numbers[voter] = number;
            isTold[voter] = true;
            recount();
        }

        /** Ahead of the asking, as numbers are asked far more often than told. */
        private void recount() {
            count = 0;
            sum = 0;
            for (int i = 0; i < numbers.length && i < isTold.length; i++) {
                if (isTold[i]) {
                    least = count == 0 ? numbers[i] : Math.min(least, numbers[i]);
                    greatest = count == 0 ? numbers[i] : Math.max(greatest, numbers[i]);
                    sum += numbers[i];
                    count++;
                }
            }
        }

        boolean hasMean() {
            return count >= 3;
        }

        double trimmedMean() {
            return count < 3 ? 0.0 : (double) (sum - least - greatest) / (double) (count - 2);
        }

        /** The one in the middle of three; of fewer the least one, or 0. */
        int middle() {
            if (count == 0) {
                return 0;
            }
            return count < 3 ? least : sum - least - greatest;
        }

        boolean hasTold(int voter) {
            return isSeat(voter) && isTold[voter];
        }

        int numberOf(int voter) {
            return hasTold(voter) ? numbers[voter] : 0;
        }
    }

    /** The values of one edition of the code. */
    private static final class Edition {
        private final int[] values = FIRST_VALUES.clone();

        /** Whether a value can be told: none for a jump of 0 turns, so that it stays 0. */
        static boolean hasValue(int kind, int turns) {
            if (kind == SPIN) {
                return isIn(turns, 0, MOST_LEVEL);
            }
            return isIn(kind, TOE, AXEL) && isIn(turns, 1, MOST_TURNS);
        }

        int valueOf(int kind, int turns) {
            int place = kind * VALUE_ROW + turns;
            return place >= 0 && place < values.length ? values[place] : 0;
        }

        /** Answers what the value was. */
        int replace(int kind, int turns, int value) {
            int place = kind * VALUE_ROW + turns;
            if (place < 0 || place >= values.length) {
                return 0;
            }
            int before = values[place];
            values[place] = value;
            return before;
        }
    }

    /** A jump or a spin as it was skated, and what callers and judges told of it. */
    private static final class Element {
        private final int kind;
        /** Of a spin its level. */
        private final int turns;
        private final boolean isWrongEdge;
        private final boolean isLate;
        private final boolean isFall;
        /** Settled as it is skated: only what is ahead of it decides. */
        private final boolean isCounted;
        private final Votes calls = new Votes();
        private final Votes grades = new Votes();

        Element(int kind, int turns, boolean isWrongEdge, boolean isLate, boolean isFall, boolean isCounted) {
            this.kind = kind;
            this.turns = turns;
            this.isWrongEdge = isWrongEdge;
            this.isLate = isLate;
            this.isFall = isFall;
            this.isCounted = isCounted;
        }

        int quarters() {
            return calls.middle();
        }

        int baseBy(Edition edition) {
            if (!isCounted) {
                return 0;
            }
            int quarters = calls.middle();
            int base = edition.valueOf(kind, quarters >= 3 ? turns - 1 : turns);
            // Each step is rounded ahead of the next one: the order matters.
            if (quarters == 2) {
                base = nearest((double) base * 0.8);
            }
            if (isWrongEdge) {
                base = nearest((double) base * 0.8);
            }
            if (isLate) {
                base = nearest((double) base * 1.1);
            }
            return base;
        }

        int scoreBy(Edition edition) {
            int base = baseBy(edition);
            return base + nearest((double) base * grades.trimmedMean() / 10.0);
        }
    }

    /** A skater's programme, once for all: how it stands as it is skated, and what it has become. */
    private static final class Programme {
        private final Element[] elements = new Element[ELEMENTS];
        private final Votes[] components = new Votes[COMPONENTS];
        private boolean hasBegun = false;
        private boolean hasEnded = false;
        private int foot = LEFT;
        private int edge = OUTSIDE;
        private int way = FORWARD;
        private int seconds = 0;
        private int count = 0;
        private int jumps = 0;
        private int falls = 0;
        /** All features of the spins with a level above 0. */
        private int usedFeatures = 0;

        Programme() {
            for (int i = 0; i < components.length; i++) {
                components[i] = new Votes();
            }
        }

        /** Null if there is no such element. */
        Element elementAt(int number) {
            return number >= 0 && number < elements.length ? elements[number] : null;
        }

        /** Null if there is no such component. */
        Votes componentAt(int number) {
            return number >= 0 && number < components.length ? components[number] : null;
        }

        boolean hasTime() {
            return seconds < MOST_SECONDS;
        }

        boolean hasRoom() {
            return hasTime() && count < elements.length;
        }

        /** Answers how the skater stands then. */
        int skateTurn(int kind) {
            if (kind == MOHAWK || kind == CHOCTAW || kind == STEP) {
                foot = 1 - foot;
            }
            if (kind == THREE || kind == CHOCTAW || kind == SLIDE) {
                edge = 1 - edge;
            }
            if (kind == THREE || kind == ROCKER || kind == MOHAWK || kind == CHOCTAW) {
                way = 1 - way;
            }
            seconds += TURN_SECONDS;
            return 4 * foot + 2 * edge + way;
        }

        boolean canTakeOff(int kind) {
            int rightFoot = kind == TOE || kind == LOOP ? RIGHT : LEFT;
            int rightWay = kind == AXEL ? FORWARD : BACKWARD;
            boolean isEitherEdge = kind == FLIP || kind == LUTZ;
            return foot == rightFoot && way == rightWay && (isEitherEdge || !isWrongEdge(kind));
        }

        private boolean isWrongEdge(int kind) {
            return edge != (kind == SALCHOW || kind == FLIP ? INSIDE : OUTSIDE);
        }

        /** Answers the number of the element. */
        int skateJump(int kind, int turns, boolean isFall) {
            boolean isCounted = jumps < COUNTED_JUMPS && likeJumps(kind, turns) < COUNTED_LIKE_JUMPS;
            boolean isLate = seconds >= LATE_SECONDS;
            int number = add(new Element(kind, turns, isWrongEdge(kind), isLate, isFall, isCounted));
            jumps++;
            if (isFall) {
                falls++;
            }
            seconds += JUMP_SECONDS;
            landOn(RIGHT);
            return number;
        }

        /** Answers the number of the element. */
        int skateSpin(int features, int rounds) {
            int level = rounds < LEVEL_ROUNDS ? 0 : Math.min(Integer.bitCount(features & ~usedFeatures), MOST_LEVEL);
            boolean isCounted = count - jumps < COUNTED_SPINS;
            int number = add(new Element(SPIN, level, false, false, false, isCounted));
            if (level > 0) {
                usedFeatures |= features;
            }
            seconds += SPIN_SECONDS;
            landOn(LEFT);
            return number;
        }

        private int add(Element element) {
            int number = count;
            if (number < 0 || number >= elements.length) {
                return NONE;
            }
            elements[number] = element;
            count = number + 1;
            return number;
        }

        private void landOn(int landingFoot) {
            foot = landingFoot;
            edge = OUTSIDE;
            way = BACKWARD;
        }

        private int likeJumps(int kind, int turns) {
            int like = 0;
            for (Element element : elements) {
                if (element != null && element.kind == kind && element.turns == turns) {
                    like++;
                }
            }
            return like;
        }

        int elementScoresBy(Edition edition) {
            int sum = 0;
            for (Element element : elements) {
                if (element != null) {
                    sum += element.scoreBy(edition);
                }
            }
            return sum;
        }

        private int componentScore(Votes votes) {
            return 2 * nearest(25.0 * votes.trimmedMean());
        }

        int componentScores() {
            int sum = 0;
            for (Votes votes : components) {
                if (votes != null) {
                    sum += componentScore(votes);
                }
            }
            return sum;
        }

        int fine() {
            return 100 * falls + 100 * Math.max(0, falls - 2);
        }

        int totalOf(int elementScores) {
            return Math.max(0, elementScores + componentScores() - fine());
        }

        /** The other way round than the total is made, so that it is a second reckoning. */
        boolean isSumRight(Edition edition) {
            int sum = 0;
            for (int i = elements.length - 1; i >= 0; i--) {
                Element element = elements[i];
                if (element != null) {
                    sum += element.scoreBy(edition);
                }
            }
            for (int i = components.length - 1; i >= 0; i--) {
                Votes votes = components[i];
                if (votes != null) {
                    sum += componentScore(votes);
                }
            }
            return Math.max(0, sum - fine()) == totalOf(elementScoresBy(edition));
        }

        /** The sum so far, and how much the judge's grades are more than the means, element by element. */
        double addBias(int judge, double soFar) {
            double sum = soFar;
            for (Element element : elements) {
                if (element != null && element.grades.hasMean() && element.grades.hasTold(judge)) {
                    sum += (double) element.grades.numberOf(judge) - element.grades.trimmedMean();
                }
            }
            return sum;
        }
    }
}
