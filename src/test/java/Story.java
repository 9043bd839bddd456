import java.util.ArrayList;
import java.util.List;
import java.util.function.Supplier;

/** What an object tells of its state, as one row of answers. */
final class Story {
    private Story() { }

    /** Facts with their reasons, the next match, and what is met. */
    static String ofMoment(JoinNet net) {
        List<Object> story = new ArrayList<>();
        moment(story, net);
        return story.toString();
    }

    static void note(List<Object> story, Supplier<Object> call) {
        try {
            story.add(call.get());
        } catch (RuntimeException e) {
            story.add(e.getClass());
        }
    }

    /** What is told of facts, reasons, rules, the agenda and the latest run. */
    static void look(List<Object> story, JoinNet net) {
        moment(story, net);
        story.add(List.of(net.loop(), net.shared(true), net.shared(false)));
        note(story, () -> net.follows(6, 2, 0, 0));
        note(story, () -> net.follows(7, 0, 1, 1));
    }

    static void glance(List<Object> story, JoinNet net) {
        story.add(List.of(net.facts(), net.matches(), net.agenda(), net.loop()));
        for (int what = 0; what < 4; what++) {
            story.add(net.next(what));
        }
    }

    static void tables(List<Object> story, JoinNet net) {
        for (int table = 0; table < 2; table++) {
            story.add(net.hole(table, true));
            story.add(net.hole(table, false));
            for (int pair = 0; pair < 100; pair++) {
                story.add(net.outcome(table, pair / 10, pair % 10));
            }
        }
    }

    private static void moment(List<Object> story, JoinNet net) {
        int facts = net.facts();
        for (int i = 0; i < facts; i++) {
            int fact = net.factAt(i);
            int supports = net.fact(fact, 7);
            story.add(List.of(fact, supports));
            for (int what = 0; what < 7; what++) {
                story.add(net.fact(fact, what));
            }
            for (int support = 0; support < supports; support++) {
                for (int what = 0; what < 4; what++) {
                    story.add(net.why(fact, support, what));
                }
            }
        }
        for (int rule = 0; rule < 12; rule++) {
            int its = rule;
            note(story, () -> net.met(its));
        }
        for (int what = 0; what < 4; what++) {
            story.add(net.next(what));
        }
        story.add(List.of(net.matches(), net.agenda()));
    }
}
