import java.util.ArrayList;
import java.util.Arrays;
import java.util.List;
import java.util.Random;

/** Long runs of calls, right and wrong ones, told beside a second telling of the document that keeps all history. */
public final class ModelTest {
    private static final int RUNS = 1500, CALLS = 512;

    /** What was skated, and nothing that follows from it. */
    private static final class Skated {
        int kind, turns, features, rounds, beginsAt;
        boolean isFall, isWrong;
        Integer[] calls = new Integer[3];
        Integer[] grades = new Integer[7];
    }

    private static final class Told {
        List<Skated> elements = new ArrayList<>();
        Integer[][] components = new Integer[3][7];
        int seconds = 0, stands = 2;
        boolean begun = false, ended = false;
    }

    private static final class Model {
        static final int[][] VALUES = {
            {0, 40, 130, 420, 950}, {0, 40, 130, 430, 970}, {0, 50, 170, 490, 1050}, {0, 50, 180, 530, 1100},
            {0, 60, 210, 590, 1150}, {0, 110, 330, 800, 1250}, {0, 120, 150, 200, 270},
        };
        final List<Told> told = new ArrayList<>();
        final int[][][] values = new int[3][7][];
        Told now = null;

        Model() {
            for (int[][] edition : values) {
                for (int kind = 0; kind < 7; kind++) {
                    edition[kind] = VALUES[kind].clone();
                }
            }
        }

        Told at(int skater) {
            if (skater < 0 || skater >= told.size()) {
                throw new IndexOutOfBoundsException();
            }
            return told.get(skater);
        }

        static void index(boolean good) {
            if (!good) {
                throw new IndexOutOfBoundsException();
            }
        }

        static void argument(boolean good) {
            if (!good) {
                throw new IllegalArgumentException();
            }
        }

        static void state(boolean good) {
            if (!good) {
                throw new IllegalStateException();
            }
        }

        int skater() {
            state(told.size() < 12);
            told.add(new Told());
            return told.size() - 1;
        }

        int begin(int skater) {
            Told programme = at(skater);
            state(!programme.begun && now == null);
            programme.begun = true;
            now = programme;
            return 0;
        }

        int turn(int kind) {
            argument(kind >= 0 && kind <= 5);
            state(now != null && now.seconds < 240);
            now.stands ^= new int[] {3, 1, 5, 7, 2, 4}[kind];
            now.seconds += 2;
            return now.stands;
        }

        int jump(int kind, int turns, boolean isFall) {
            argument(kind >= 0 && kind <= 5 && turns >= 1 && turns <= 4);
            state(now != null && now.seconds < 240 && now.elements.size() < 12);
            int due = new int[] {7, 1, 7, 1, 3, 2}[kind];
            boolean isWrong = now.stands != due;
            state(!isWrong || (kind == 3 || kind == 4) && now.stands == (due ^ 2));
            Skated jump = new Skated();
            jump.kind = kind;
            jump.turns = turns;
            jump.isFall = isFall;
            jump.isWrong = isWrong;
            jump.beginsAt = now.seconds;
            now.seconds += 4;
            now.stands = 7;
            now.elements.add(jump);
            return now.elements.size() - 1;
        }

        int spin(int features, int rounds) {
            argument(features >= 0 && features <= 63 && rounds >= 1 && rounds <= 20);
            state(now != null && now.seconds < 240 && now.elements.size() < 12);
            Skated spin = new Skated();
            spin.kind = 6;
            spin.features = features;
            spin.rounds = rounds;
            now.seconds += 10;
            now.stands = 3;
            now.elements.add(spin);
            return now.elements.size() - 1;
        }

        int end() {
            state(now != null);
            int many = now.elements.size();
            now.ended = true;
            now = null;
            return many;
        }

        int call(int caller, int element, int quarters) {
            index(caller >= 0 && caller <= 2);
            index(now == null || element >= 0 && element < now.elements.size());
            argument(quarters >= 0 && quarters <= 4);
            state(now != null && now.elements.get(element).kind != 6);
            now.elements.get(element).calls[caller] = quarters;
            return quarters(now.elements.get(element));
        }

        int grade(int judge, int skater, int element, int grade) {
            index(judge >= 0 && judge <= 6);
            Told programme = at(skater);
            index(element >= 0 && element < programme.elements.size());
            argument(grade >= -5 && grade <= 5);
            state(programme.ended);
            programme.elements.get(element).grades[judge] = grade;
            return 0;
        }

        int component(int judge, int skater, int component, int quarters) {
            index(judge >= 0 && judge <= 6);
            Told programme = at(skater);
            index(component >= 0 && component <= 2);
            argument(quarters >= 0 && quarters <= 40);
            state(programme.ended);
            programme.components[component][judge] = quarters;
            return 0;
        }

        int value(int edition, int kind, int turns, int value) {
            argument(edition >= 0 && edition <= 2 && kind >= 0 && kind <= 6);
            argument(turns >= (kind == 6 ? 0 : 1) && turns <= 4 && value >= 0 && value <= 9999);
            int was = values[edition][kind][turns];
            values[edition][kind][turns] = value;
            return was;
        }

        static int[] sorted(Integer[] votes) {
            return Arrays.stream(votes).filter(vote -> vote != null).mapToInt(vote -> vote).sorted().toArray();
        }

        static double mean(Integer[] votes) {
            int[] by = sorted(votes);
            if (by.length < 3) {
                return 0.0;
            }
            double sum = 0.0;
            for (int i = 1; i < by.length - 1; i++) {
                sum += by[i];
            }
            return sum / (by.length - 2);
        }

        static int quarters(Skated jump) {
            int[] by = sorted(jump.calls);
            return by.length == 0 ? 0 : by.length < 3 ? by[0] : by[1];
        }

        static int level(Told programme, int number) {
            int had = 0;
            int level = 0;
            for (int i = 0; i <= number; i++) {
                Skated spin = programme.elements.get(i);
                if (spin.kind == 6) {
                    int fresh = 0;
                    for (int feature = 0; feature < 6; feature++) {
                        int bit = 1 << feature;
                        fresh += (spin.features & bit) != 0 && (had & bit) == 0 ? 1 : 0;
                    }
                    level = spin.rounds < 6 ? 0 : fresh > 4 ? 4 : fresh;
                    had |= level > 0 ? spin.features : 0;
                }
            }
            return level;
        }

        int base(Told programme, int number, int edition) {
            Skated element = programme.elements.get(number);
            int spins = 0;
            int jumps = 0;
            int like = 0;
            for (Skated ahead : programme.elements.subList(0, number)) {
                spins += ahead.kind == 6 ? 1 : 0;
                jumps += ahead.kind == 6 ? 0 : 1;
                like += ahead.kind == element.kind && ahead.turns == element.turns ? 1 : 0;
            }
            if (element.kind == 6) {
                return spins >= 3 ? 0 : values[edition][6][level(programme, number)];
            }
            if (like >= 2 || jumps >= 7) {
                return 0;
            }
            int quarters = quarters(element);
            int turns = quarters >= 3 ? element.turns - 1 : element.turns;
            double base = turns == 0 ? 0 : values[edition][element.kind][turns];
            base = quarters == 2 ? Math.rint(base * 0.8) : base;
            base = element.isWrong ? Math.rint(base * 0.8) : base;
            base = element.beginsAt >= 120 ? Math.rint(base * 1.1) : base;
            return (int) base;
        }

        int score(Told programme, int number, int edition) {
            double base = base(programme, number, edition);
            return (int) (base + Math.rint(base * mean(programme.elements.get(number).grades) / 10.0));
        }

        int element(int skater, int element, int edition, int what) {
            Told programme = at(skater);
            index(element >= 0 && element < programme.elements.size());
            argument(edition >= 0 && edition <= 2 && what >= 0 && what <= 7);
            Skated asked = programme.elements.get(element);
            boolean isJump = asked.kind != 6;
            int[] answers = {
                asked.kind, isJump ? asked.turns : level(programme, element), quarters(asked),
                asked.isWrong ? 1 : 0, isJump && asked.beginsAt >= 120 ? 1 : 0, asked.isFall ? 1 : 0,
                base(programme, element, edition), score(programme, element, edition),
            };
            return answers[what];
        }

        int elements(Told programme, int edition) {
            int sum = 0;
            for (int i = 0; i < programme.elements.size(); i++) {
                sum += score(programme, i, edition);
            }
            return sum;
        }

        static int components(Told programme) {
            int sum = 0;
            for (Integer[] component : programme.components) {
                sum += 2 * (int) Math.rint(25.0 * mean(component));
            }
            return sum;
        }

        static int fine(Told programme) {
            int falls = 0;
            int fine = 0;
            for (Skated element : programme.elements) {
                falls += element.isFall ? 1 : 0;
                fine += !element.isFall ? 0 : falls <= 2 ? 100 : 200;
            }
            return fine;
        }

        int total(Told programme, int edition) {
            return Math.max(0, elements(programme, edition) + components(programme) - fine(programme));
        }

        List<Integer> ranks(int edition) {
            List<Integer> ranked = new ArrayList<>();
            for (int i = 0; i < told.size(); i++) {
                if (told.get(i).ended) {
                    ranked.add(i);
                }
            }
            ranked.sort((a, b) -> {
                int byTotals = total(told.get(b), edition) - total(told.get(a), edition);
                int byElements = elements(told.get(b), edition) - elements(told.get(a), edition);
                return byTotals != 0 ? byTotals : byElements != 0 ? byElements : a - b;
            });
            return ranked;
        }

        int programme(int skater, int edition, int what) {
            Told asked = at(skater);
            argument(edition >= 0 && edition <= 2 && what >= 0 && what <= 5);
            int[] answers = {
                elements(asked, edition), components(asked), fine(asked), total(asked, edition),
                asked.seconds, ranks(edition).indexOf(skater),
            };
            return answers[what];
        }

        int starts(int edition, int place) {
            argument(edition >= 0 && edition <= 2 && place >= 0 && place <= 11);
            List<Integer> order = new ArrayList<>();
            for (int skater : ranks(edition)) {
                order.add(0, skater);
            }
            for (int i = 0; i < told.size(); i++) {
                if (!told.get(i).ended) {
                    order.add(i);
                }
            }
            return place < order.size() ? order.get(place) : -1;
        }

        int bias(int judge) {
            index(judge >= 0 && judge <= 6);
            double sum = 0.0;
            for (Told programme : told) {
                for (Skated element : programme.elements) {
                    if (element.grades[judge] != null && sorted(element.grades).length >= 3) {
                        sum += element.grades[judge] - mean(element.grades);
                    }
                }
            }
            return (int) Math.rint(100.0 * sum);
        }
    }

    /** How a run leans: what it does often, so that runs reach full programmes, late jumps and full panels. */
    private static final class Run {
        final Random random;
        final Model model = new Model();
        final EdgeCode code = new EdgeCode();
        final int slides, jumps, spins, wrongs, judging;

        Run(long seed) {
            random = new Random(seed);
            slides = 5 + random.nextInt(40);
            jumps = 10 + random.nextInt(60);
            spins = random.nextInt(15);
            wrongs = random.nextInt(12);
            judging = random.nextInt(80);
        }

        /** Mostly in the range, sometimes at its borders' other side or far off. */
        int about(int least, int greatest) {
            if (random.nextInt(100) < wrongs) {
                int[] off = {least - 1, greatest + 1, Integer.MIN_VALUE, Integer.MAX_VALUE, least - 2, greatest + 7};
                return off[random.nextInt(off.length)];
            }
            return least + random.nextInt(Math.max(1, greatest - least + 1));
        }

        int anySkater() {
            return about(0, Math.max(0, model.told.size() - 1));
        }

        int anyElement(int skater) {
            boolean isOne = skater >= 0 && skater < model.told.size();
            return about(0, isOne ? Math.max(0, model.told.get(skater).elements.size() - 1) : 11);
        }

        int[] next() {
            if (model.told.isEmpty() || random.nextInt(60) == 0) {
                return new int[] {0};
            }
            if (random.nextInt(100) < 15) {
                return asking();
            }
            if (model.now == null) {
                return random.nextInt(100) < judging ? judging() : between();
            }
            return skating();
        }

        private int[] between() {
            int[] kinds = {1, 1, 1, 1, 1, 0, 2, 3, 4, 5, 6};
            return of(kinds[random.nextInt(kinds.length)]);
        }

        private int[] skating() {
            int lot = random.nextInt(160);
            if (lot < slides) {
                return of(2);
            }
            if (lot < slides + jumps) {
                return of(3);
            }
            if (lot < slides + jumps + spins) {
                return of(4);
            }
            return random.nextInt(12) == 0 ? of(5) : random.nextInt(4) == 0 ? judging() : of(6);
        }

        private int[] judging() {
            return random.nextInt(3) == 0 ? of(8) : of(7);
        }

        private int[] asking() {
            return of(9 + random.nextInt(6));
        }

        private int[] of(int kind) {
            int skater = anySkater();
            switch (kind) {
                case 1: return new int[] {1, skater};
                case 2: return new int[] {2, about(0, 5)};
                case 3: return jumpThatIsLikely();
                case 4: return new int[] {4, about(0, 63), about(1, 20)};
                case 5: return new int[] {5};
                case 6: return new int[] {6, about(0, 2), anyElement(model.told.indexOf(model.now)), about(0, 4)};
                case 7: return new int[] {7, about(0, 6), skater, anyElement(skater), about(-5, 5)};
                case 8: return new int[] {8, about(0, 6), skater, about(0, 2), about(0, 40)};
                case 9: return new int[] {9, about(0, 2), about(0, 6), about(0, 4), someValue()};
                case 10: return new int[] {10, skater, anyElement(skater), about(0, 2), about(0, 7)};
                case 11: return new int[] {11, skater, about(0, 2), about(0, 5)};
                case 12: return new int[] {12, about(0, 2), about(0, 11)};
                case 13: return new int[] {13, about(0, 6)};
                case 14: return new int[] {14};
                default: return new int[] {0};
            }
        }

        private int someValue() {
            return random.nextBoolean() ? about(0, 60) : about(0, 9999);
        }

        private int[] jumpThatIsLikely() {
            int kind = about(0, 5);
            if (model.now != null && random.nextInt(10) != 0) {
                int[] possible = {-1, 3, 5, 4, -1, -1, -1, 0};
                int best = possible[model.now.stands];
                kind = best < 0 ? kind : best == 0 && random.nextBoolean() ? 2 : best;
            }
            return new int[] {3, kind, about(1, 4), random.nextInt(4) == 0 ? 1 : 0};
        }
    }

    private static int byCode(EdgeCode x, int[] c) {
        switch (c[0]) {
            case 0: return x.skater();
            case 1: x.begin(c[1]); return 0;
            case 2: return x.turn(c[1]);
            case 3: return x.jump(c[1], c[2], c[3] == 1);
            case 4: return x.spin(c[1], c[2]);
            case 5: return x.end();
            case 6: return x.call(c[1], c[2], c[3]);
            case 7: x.grade(c[1], c[2], c[3], c[4]); return 0;
            case 8: x.component(c[1], c[2], c[3], c[4]); return 0;
            case 9: return x.value(c[1], c[2], c[3], c[4]);
            case 10: return x.element(c[1], c[2], c[3], c[4]);
            case 11: return x.programme(c[1], c[2], c[3]);
            case 12: return x.starts(c[1], c[2]);
            case 13: return x.bias(c[1]);
            default: return x.addsUp() ? 1 : 0;
        }
    }

    private static int byModel(Model x, int[] c) {
        switch (c[0]) {
            case 0: return x.skater();
            case 1: return x.begin(c[1]);
            case 2: return x.turn(c[1]);
            case 3: return x.jump(c[1], c[2], c[3] == 1);
            case 4: return x.spin(c[1], c[2]);
            case 5: return x.end();
            case 6: return x.call(c[1], c[2], c[3]);
            case 7: return x.grade(c[1], c[2], c[3], c[4]);
            case 8: return x.component(c[1], c[2], c[3], c[4]);
            case 9: return x.value(c[1], c[2], c[3], c[4]);
            case 10: return x.element(c[1], c[2], c[3], c[4]);
            case 11: return x.programme(c[1], c[2], c[3]);
            case 12: return x.starts(c[1], c[2]);
            case 13: return x.bias(c[1]);
            default: return 1;
        }
    }

    private static String codeSays(EdgeCode x, int[] call) {
        try {
            return String.valueOf(byCode(x, call));
        } catch (RuntimeException e) {
            return e.getClass().getName();
        }
    }

    private static String modelSays(Model x, int[] call) {
        try {
            return String.valueOf(byModel(x, call));
        } catch (RuntimeException e) {
            return e.getClass().getName();
        }
    }

    public static void main(String[] args) {
        int wrong = 0;
        int[] answered = new int[15];
        int[] thrown = new int[15];
        for (int seed = 0; seed < RUNS && wrong < 20; seed++) {
            Run run = new Run(seed);
            for (int i = 0; i < CALLS; i++) {
                int[] call = run.next();
                String due = modelSays(run.model, call);
                String got = codeSays(run.code, call);
                (due.startsWith("java") ? thrown : answered)[call[0]]++;
                if (!due.equals(got)) {
                    wrong++;
                    System.out.println("run " + seed + ", call " + i + " " + Arrays.toString(call)
                        + " answered " + got + ", due is " + due);
                    break;
                }
            }
        }
        if (args.length > 0) {
            System.out.println("answered " + Arrays.toString(answered));
            System.out.println("thrown   " + Arrays.toString(thrown));
        }
        if (wrong != 0) {
            System.exit(1);
        }
    }
}
