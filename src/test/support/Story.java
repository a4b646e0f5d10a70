import java.util.ArrayList;
import java.util.Arrays;
import java.util.List;

/** A run of calls that is made again, on a new object, each time it is needed; it never changes itself. */
final class Story {
    static final int MOST_CALLS = 512;

    /** One call. */
    interface Act {
        void on(EdgeCode x);
    }

    private final List<Act> acts;

    private Story(List<Act> acts) {
        this.acts = acts;
    }

    static Story fresh() {
        return new Story(new ArrayList<>());
    }

    Story and(Act... more) {
        List<Act> all = new ArrayList<>(acts);
        all.addAll(Arrays.asList(more));
        return new Story(all);
    }

    Story times(int many, Act act) {
        Act[] more = new Act[many];
        Arrays.fill(more, act);
        return and(more);
    }

    Story skaters(int many) {
        return times(many, x -> x.skater());
    }

    Story begin(int skater) {
        return and(x -> x.begin(skater));
    }

    Story turns(int... kinds) {
        Story story = this;
        for (int kind : kinds) {
            story = story.and(x -> x.turn(kind));
        }
        return story;
    }

    Story jump(int kind, int turns, boolean isFall) {
        return and(x -> x.jump(kind, turns, isFall));
    }

    Story spin(int features, int rounds) {
        return and(x -> x.spin(features, rounds));
    }

    Story end() {
        return and(x -> x.end());
    }

    Story call(int caller, int element, int quarters) {
        return and(x -> x.call(caller, element, quarters));
    }

    /** The judges from 0 on. */
    Story grades(int skater, int element, int... grades) {
        Story story = this;
        for (int i = 0; i < grades.length; i++) {
            int judge = i;
            story = story.and(x -> x.grade(judge, skater, element, grades[judge]));
        }
        return story;
    }

    /** The judges from 0 on. */
    Story components(int skater, int component, int... quarters) {
        Story story = this;
        for (int i = 0; i < quarters.length; i++) {
            int judge = i;
            story = story.and(x -> x.component(judge, skater, component, quarters[judge]));
        }
        return story;
    }

    Story value(int edition, int kind, int turns, int value) {
        return and(x -> x.value(edition, kind, turns, value));
    }

    int calls() {
        return acts.size();
    }

    /** A new object, on which all of it has been called. */
    EdgeCode told() {
        if (acts.size() > MOST_CALLS) {
            throw new AssertionError("a story of " + acts.size() + " calls");
        }
        EdgeCode x = new EdgeCode();
        for (Act act : acts) {
            act.on(x);
        }
        return x;
    }
}
