import java.util.ArrayList;
import java.util.List;

/**
 * All that an object answers after a story, and how it can go on from there. Each way on has an object of its own,
 * so that what one way changes does not hide anything from another.
 */
final class State {
    private static final int SKATERS = 12, ELEMENTS = 12, EDITIONS = 3, JUDGES = 7, SPIN = 6;
    private static final int NOT_ANSWERED = Integer.MIN_VALUE;

    interface Ask {
        long on(EdgeCode x);
    }

    private final Story story;
    private final List<String> answers = new ArrayList<>();
    private EdgeCode object;
    private int calls;

    private State(Story story) {
        this.story = story;
    }

    static List<String> of(Story story) {
        State state = new State(story);
        state.renew();
        state.askValues();
        state.renew();
        state.askProgrammes();
        state.askElements();
        state.askOrders();
        state.goOnWithTurns();
        state.goOnWithSkaters();
        state.goOnWithBegins();
        state.goOnWithSpins();
        state.goOnWithJumps();
        state.goOnWithCalls();
        state.goOnWithGrades(5, 6);
        state.goOnWithGrades(0, 1);
        state.goOnWithComponents(5, 6);
        state.goOnWithComponents(0, 1);
        return state.answers;
    }

    /** The name of what it throws, or what it answers. */
    static String answerOf(EdgeCode x, Ask ask) {
        try {
            return String.valueOf(ask.on(x));
        } catch (RuntimeException e) {
            return e.getClass().getName();
        }
    }

    private void renew() {
        object = story.told();
        calls = story.calls();
    }

    /** A call that changes nothing that later ones ask: it may go to a new object. */
    private void ask(String what, Ask ask) {
        if (calls >= Story.MOST_CALLS) {
            renew();
        }
        goOn(what, ask);
    }

    /** A call that must come right behind the last one; NOT_ANSWERED if it throws. */
    private int goOn(String what, Ask ask) {
        if (calls >= Story.MOST_CALLS) {
            throw new AssertionError("too long a story to go on: " + story.calls());
        }
        calls++;
        String answer = answerOf(object, ask);
        answers.add(what + ": " + answer);
        return answer.startsWith("java") ? NOT_ANSWERED : Integer.parseInt(answer);
    }

    private int goOnVoid(String what, Story.Act act) {
        return goOn(what, x -> {
            act.on(x);
            return 0;
        });
    }

    private void askValues() {
        for (int i = 0; i < EDITIONS * (SPIN + 1); i++) {
            int edition = i / (SPIN + 1);
            int kind = i % (SPIN + 1);
            for (int j = kind == SPIN ? 0 : 1; j <= 4; j++) {
                int turns = j;
                ask("value " + edition + " " + kind + " " + turns, x -> x.value(edition, kind, turns, 0));
            }
        }
    }

    private void askProgrammes() {
        for (int i = 0; i < SKATERS * EDITIONS; i++) {
            int skater = i / EDITIONS;
            int edition = i % EDITIONS;
            for (int j = 0; j <= 5; j++) {
                int what = j;
                ask("programme " + skater + " " + edition + " " + what, x -> x.programme(skater, edition, what));
            }
        }
    }

    private void askElements() {
        for (int i = 0; i < SKATERS * ELEMENTS; i++) {
            int skater = i / ELEMENTS;
            int element = i % ELEMENTS;
            for (int j = 0; j <= 7; j++) {
                int what = j;
                for (int e = 0; e < (what < 6 ? 1 : EDITIONS); e++) {
                    int edition = e;
                    ask("element " + skater + " " + element + " " + edition + " " + what,
                        x -> x.element(skater, element, edition, what));
                }
            }
        }
    }

    private void askOrders() {
        for (int i = 0; i < EDITIONS * SKATERS; i++) {
            int edition = i / SKATERS;
            int place = i % SKATERS;
            ask("starts " + edition + " " + place, x -> x.starts(edition, place));
        }
        for (int i = 0; i < JUDGES; i++) {
            int judge = i;
            ask("bias " + judge, x -> x.bias(judge));
        }
        ask("addsUp", x -> x.addsUp() ? 1 : 0);
    }

    private void goOnWithTurns() {
        renew();
        goOn("a slide", x -> x.turn(EdgeCode.SLIDE));
        goOn("a step behind it", x -> x.turn(EdgeCode.STEP));
    }

    private void goOnWithSkaters() {
        renew();
        for (int i = 0; i <= SKATERS; i++) {
            goOn("a further skater", x -> x.skater());
        }
    }

    private void goOnWithBegins() {
        renew();
        goOn("end", x -> x.end());
        for (int i = 0; i < SKATERS; i++) {
            int skater = i;
            goOnVoid("begin " + skater, x -> x.begin(skater));
            goOn("a slide of " + skater, x -> x.turn(EdgeCode.SLIDE));
            goOn("end of " + skater, x -> x.end());
            goOn("rank of " + skater, x -> x.programme(skater, 0, 5));
        }
    }

    private void askNewElement(String what, int number) {
        for (int i = 0; i < SKATERS && number != NOT_ANSWERED; i++) {
            int skater = i;
            goOn(what + ", turns or level, of " + skater, x -> x.element(skater, number, 0, 1));
            goOn(what + ", base, of " + skater, x -> x.element(skater, number, 0, 6));
        }
    }

    private void goOnWithSpins() {
        for (int feature = 0; feature < 6; feature++) {
            renew();
            int features = 1 << feature;
            askNewElement("a spin of " + features, goOn("a spin of " + features, x -> x.spin(features, 6)));
        }
    }

    /** From where a spin ends to where each jump takes off. */
    private static final int[] TO_TAKE_OFF =
        {EdgeCode.STEP, EdgeCode.SLIDE, EdgeCode.STEP, EdgeCode.SLIDE, -1, EdgeCode.ROCKER};

    private void goOnWithJumps() {
        for (int i = 0; i < 24; i++) {
            renew();
            int kind = i / 4;
            int turns = 1 + i % 4;
            goOn("a spin ahead of jumps", x -> x.spin(0, 1));
            if (TO_TAKE_OFF[kind] >= 0) {
                goOn("a turn to take off", x -> x.turn(TO_TAKE_OFF[kind]));
            }
            String what = "a jump " + kind + " of " + turns;
            askNewElement(what, goOn(what, x -> x.jump(kind, turns, true)));
            goOn("another jump behind it", x -> x.jump(EdgeCode.TOE, turns, true));
            for (int j = 0; j < SKATERS; j++) {
                int skater = j;
                goOn("fine of " + skater, x -> x.programme(skater, 0, 2));
            }
        }
    }

    private void goOnWithCalls() {
        for (int i = 0; i < 3; i++) {
            renew();
            int caller = i;
            for (int j = 0; j < ELEMENTS; j++) {
                int element = j;
                goOn("call " + caller + " " + element + " of 0", x -> x.call(caller, element, 0));
                goOn("call " + caller + " " + element + " of 4", x -> x.call(caller, element, 4));
            }
        }
    }

    /** With the least and the greatest grade told by two judges, the others' grades are what is left. */
    private void goOnWithGrades(int one, int other) {
        for (int i = 0; i < SKATERS; i++) {
            renew();
            int skater = i;
            boolean isGraded = true;
            for (int j = 0; j < ELEMENTS && isGraded; j++) {
                int element = j;
                isGraded = goOnVoid("grade " + skater + " " + element, x -> x.grade(one, skater, element, -5)) == 0;
                goOnVoid("grade " + skater + " " + element, x -> x.grade(other, skater, element, 5));
                goOn("score " + skater + " " + element, x -> x.element(skater, element, 0, 7));
            }
            for (int j = 0; j < JUDGES; j++) {
                int judge = j;
                goOn("bias " + judge + " then", x -> x.bias(judge));
            }
        }
    }

    private void goOnWithComponents(int one, int other) {
        renew();
        for (int i = 0; i < SKATERS * 3; i++) {
            int skater = i / 3;
            int component = i % 3;
            String what = "component " + skater + " " + component;
            goOnVoid(what, x -> x.component(one, skater, component, 0));
            goOnVoid(what, x -> x.component(other, skater, component, 40));
            goOn(what + " then", x -> x.programme(skater, 0, 1));
        }
    }
}
