import java.util.ArrayList;
import java.util.List;

/**
 * A call that throws changes nothing else than told: of two objects that are made alike, the call is made on one,
 * and then both are asked, and used on, in the same way.
 */
public final class ThrowsTest {
    private static final int NONE = JoinNet.NONE;
    private static final Check check = new Check("ThrowsTest");

    /** A call that is due to throw. */
    private interface Bad {
        void on(JoinNet net);
    }

    public static void main(String[] args) {
        storyTellsAll();
        Check.Maker[] makers = {JoinNet::new, () -> rich("0,0,1:a(_,_,_)=>^"), () -> full(true)};
        for (Check.Maker maker : makers) {
            arguments(maker);
            indices(maker);
        }
        statesOfFull();
        tapeIsUsedUp();
        check.end();
    }

    // ---- objects to begin with

    /** Something of everything; the text is what is on the tape. */
    private static JoinNet rich(String tape) {
        JoinNet net = Check.withRules("0,0,80:a(x,y,_)!b(x,_,_)=>&c(x,y,0)^1", "5,1,100:c(x,_,_)a(x,y,_)=>+d(y,x,T0(1,1))",
                "0,0,100:d(x,_,_)$s:a(@,_,_)=>&e(s,0,0)~1.2=x", "-1,0,50:a(x,y,z)=>~1.1=y+1");
        net.dropRule(Check.rule(net, "0,0,1:h(_,_,_)=>^0"));
        net.row(0, 0, 3, 0, 3, 5, 1);
        net.row(1, 2, 3, 0, 9, -6, 4);
        net.row(1, 3, 9, 5, 9, 7, 5);
        net.policy(1, JoinNet.RANK);
        Check.goal(net, "f(x,y,0):a(x,y,_)");
        Check.goal(net, "g(x,0,0):f(x,_,_)c(x,_,_)");
        net.tell(0, 1, 2, 3, 70, 9);
        net.tell(7, 1, 1, 1, 20, 3);
        net.pass(2);
        net.tell(0, 2, 5, 0, 90, NONE);
        net.run(3);
        net.tell(0, 3, 5, 0, 90, NONE);
        net.run(9);
        net.tell(0, 4, 6, 0, 60, 2);
        net.tell(0, 4, 6, 0, 60, 2);
        net.focus(2);
        net.focus(3);
        Check.feed(net, tape);
        return net;
    }

    /** All that has a limit is at it: tape, facts, rules, focus, firings to take back, goal rules, rows, what follows. */
    private static JoinNet full(boolean hasTape) {
        JoinNet net = new JoinNet();
        for (int i = 0; i < 9; i++) {
            Check.rule(net, "0,0,50:a(x,_,_)a(<x,_,_)=>&b(x,N,0)+c(0,0,0)".replace('N', (char) ('0' + i)));
        }
        Check.rule(net, "-9,0,50:c(x,_,_)=>~1.0=x+1^1^1");
        for (int i = 1; i <= 6; i++) {
            Check.goal(net, "h(x,y,N):a(x,_,_)a(y,_,_)".replace('N', (char) ('0' + i)));
        }
        for (int i = 0; i < 16; i++) {
            net.row(i / 8, i % 8, 9, 0, i % 8 + 1, i, i % 8);
        }
        for (int i = 0; i < 6; i++) {
            Check.fact(net, 'a', i, 0, 0);
        }
        net.run(10);
        for (int i = 0; net.facts() < 20; i++) {
            net.tell(6, i, 0, 0, 30, 5 + i);
        }
        for (int i = 1; i < 8; i++) {
            net.focus(i % 3);
        }
        if (hasTape) {
            StringBuilder text = new StringBuilder("0,0,100:a(x,_,_)=>+b(x,0,0");
            while (text.length() < 158) {
                text.append("+1");
            }
            Check.feed(net, text.substring(0, 158) + "0)");
        }
        return net;
    }

    // ---- what an object tells, now and when it is used on

    /** All that an object answers, now and when it is used on; what has been made in the same way tells the same. */
    private static String story(Check.Maker maker, Bad bad) {
        List<Object> story = new ArrayList<>();
        // Each chapter needs the object as it was.
        for (int chapter = 0; chapter < 8; chapter++) {
            JoinNet net = maker.make();
            if (bad != null) {
                try {
                    bad.on(net);
                } catch (RuntimeException e) {
                    // What is thrown is looked at elsewhere.
                    story.size();
                }
            }
            story.add("chapter " + chapter);
            chapter(story, net, chapter);
            if (chapter < 7) {
                Story.look(story, net);
            }
        }
        return story.toString();
    }

    private static void chapter(List<Object> story, JoinNet net, int chapter) {
        switch (chapter) {
            case 1 -> {
                Story.note(story, () -> net.focus(1));
                Story.note(story, net::agenda);
                Story.note(story, net::fire);
                Story.note(story, () -> net.run(5));
            }
            case 2, 3 -> Story.note(story, () -> net.takeBack(chapter - 1));
            case 4 -> {
                for (int i = 0; i < 7; i++) {
                    Story.note(story, () -> net.takeBack(1));
                    Story.glance(story, net);
                }
            }
            case 5 -> {
                Story.note(story, () -> {
                    net.dropRule(0);
                    return "dropped";
                });
                Story.note(story, () -> net.feed('2', 1));
                Story.note(story, net::rule);
                Story.note(story, () -> Check.goal(net, "h(1,2,3):a(_,_,_)"));
                Story.note(story, () -> net.follows(7, 1, 2, 3));
            }
            case 6 -> {
                Story.note(story, () -> net.drop(0));
                Story.note(story, () -> net.tell(0, 9, 9, 9, 9, NONE));
                for (int i = 0; i < 4; i++) {
                    Story.note(story, () -> net.pass(2));
                    Story.glance(story, net);
                }
            }
            case 7 -> {
                Story.tables(story, net);
                for (int table = 0; table < 2; table++) {
                    int its = table;
                    Story.note(story, () -> net.row(its, 0, 9, 0, 9, 50, 9));
                    Story.note(story, () -> net.policy(its, JoinNet.SUM));
                    Story.note(story, () -> net.outcome(its, 5, 5));
                }
            }
            default -> story.add("as it is");
        }
    }

    /** The test of the tests: what is not made alike tells another story. */
    private static void storyTellsAll() {
        Bad[] changes = {net -> net.feed('0', 1), net -> net.tell(0, 4, 6, 0, 60, 2), net -> net.tell(6, 6, 6, 6, 0, NONE),
            net -> net.pass(1), net -> net.drop(0), net -> net.dropRule(0), net -> net.focus(0), net -> net.fire(),
            net -> net.run(1), net -> net.takeBack(1), net -> net.policy(0, 3), net -> net.policy(1, 1),
            net -> net.row(0, 9, 9, 9, 9, 1, 1), net -> net.row(1, 9, 9, 9, 9, 1, 9), net -> Check.rule(net, "1"),
            net -> Check.goal(net, "1")};
        String rich = story(() -> rich("0,0,1:a(_,_,_)=>^"), null);
        check.isTrue("the same story", rich.equals(story(() -> rich("0,0,1:a(_,_,_)=>^"), null)));
        for (int i = 0; i < changes.length; i++) {
            check.isTrue("another story " + i, !rich.equals(story(() -> rich("0,0,1:a(_,_,_)=>^"), changes[i])));
        }
        check.isTrue("a story about all limits", story(() -> full(true), null).equals(story(() -> full(true), null)));
        JoinNet net = full(true);
        check.due("facts at their limit", 20, net.facts());
        check.badState("tape at its limit", () -> net.feed(0, 1));
        check.badState("focus at its limit", () -> net.focus(0));
        check.due("firings at their limit", 0, full(true).takeBack(6));
    }

    private static void same(String what, Class<? extends RuntimeException> due, Check.Maker maker, Bad bad) {
        JoinNet net = maker.make();
        check.isThrown(due, what, () -> bad.on(net));
        check.isTrue(what + " changes nothing", story(maker, null).equals(story(maker, bad)));
    }

    // ---- calls that throw

    private static void arguments(Check.Maker maker) {
        same("2", Check.ARGUMENT, maker, net -> net.feed(-1, 0));
        same("2", Check.ARGUMENT, maker, net -> net.feed(-1, 9));
        same("3 kind", Check.ARGUMENT, maker, net -> net.tell(8, 0, 0, 0, 50, NONE));
        same("3 one", Check.ARGUMENT, maker, net -> net.tell(0, 1000, 0, 0, 50, NONE));
        same("3 two", Check.ARGUMENT, maker, net -> net.tell(0, 0, -1000, 0, 50, NONE));
        same("3 three", Check.ARGUMENT, maker, net -> net.tell(0, 0, 0, 1000, 50, NONE));
        same("3 grade", Check.ARGUMENT, maker, net -> net.tell(0, 0, 0, 0, 101, NONE));
        same("3 grade of one that is there", Check.ARGUMENT, maker, net -> net.tell(0, 2, 5, 0, -1, NONE));
        same("3 life", Check.ARGUMENT, maker, net -> net.tell(0, 0, 0, 0, 50, 101));
        same("3 life of one that is there", Check.ARGUMENT, maker, net -> net.tell(0, 2, 5, 0, 50, 0));
        same("5", Check.ARGUMENT, maker, net -> net.pass(0));
        same("5", Check.ARGUMENT, maker, net -> net.pass(101));
        same("14", Check.ARGUMENT, maker, net -> net.focus(4));
        same("14", Check.ARGUMENT, maker, net -> net.focus(-1));
        same("16", Check.ARGUMENT, maker, net -> net.next(4));
        same("18", Check.ARGUMENT, maker, net -> net.run(0));
        same("18", Check.ARGUMENT, maker, net -> net.run(51));
        same("20 most", Check.ARGUMENT, maker, net -> net.wouldBe(51, 0, 0, 0, 0));
        same("20 most", Check.ARGUMENT, maker, net -> net.wouldBe(0, 0, 0, 0, 0));
        same("20 kind", Check.ARGUMENT, maker, net -> net.wouldBe(5, 8, 0, 0, 0));
        same("20 three", Check.ARGUMENT, maker, net -> net.wouldBe(5, 0, 0, 0, 1000));
        same("21", Check.ARGUMENT, maker, net -> net.takeBack(0));
        same("21", Check.ARGUMENT, maker, net -> net.takeBack(7));
        same("24", Check.ARGUMENT, maker, net -> net.follows(8, 0, 0, 0));
        same("25", Check.ARGUMENT, maker, net -> net.policy(0, 4));
        same("25", Check.ARGUMENT, maker, net -> net.policy(1, -1));
        same("26 to", Check.ARGUMENT, maker, net -> net.row(0, 5, 4, 0, 0, 1, 1));
        same("26 otherTo", Check.ARGUMENT, maker, net -> net.row(1, 0, 0, 5, 10, 1, 1));
        same("26 outcome", Check.ARGUMENT, maker, net -> net.row(1, 0, 9, 0, 9, 100, 1));
        same("26 rank", Check.ARGUMENT, maker, net -> net.row(1, 0, 9, 0, 9, 1, 10));
        same("27", Check.ARGUMENT, maker, net -> net.outcome(0, 0, 1000));
        check.isTrue("20 nothing changes", story(maker, null).equals(story(maker, net -> net.wouldBe(7, 0, 0, 0, 0))));
    }

    private static void indices(Check.Maker maker) {
        same("4", Check.INDEX, maker, net -> net.drop(50));
        same("4", Check.INDEX, maker, net -> net.drop(-1));
        same("7", Check.INDEX, maker, net -> net.factAt(20));
        same("8", Check.INDEX, maker, net -> net.fact(50, 0));
        same("10", Check.INDEX, maker, net -> net.dropRule(10));
        same("10", Check.INDEX, maker, net -> net.dropRule(-1));
        same("12", Check.INDEX, maker, net -> net.met(10));
        same("22", Check.INDEX, maker, net -> net.why(0, 40, 0));
        same("25", Check.INDEX, maker, net -> net.policy(2, 3));
        same("26", Check.INDEX, maker, net -> net.row(2, 0, 9, 0, 9, 1, 1));
        same("27", Check.INDEX, maker, net -> net.outcome(2, 0, 0));
        same("28", Check.INDEX, maker, net -> net.hole(-1, true));
    }

    private static void statesOfFull() {
        Check.Maker maker = () -> full(true);
        same("2 160 bytes", Check.STATE, maker, net -> net.feed(-1, 1));
        same("3 20 facts", Check.STATE, maker, net -> net.tell(5, 0, 0, 0, 50, NONE));
        same("14 8 units", Check.STATE, maker, net -> net.focus(0));
        same("24 too much", Check.STATE, maker, net -> net.follows(0, 0, 0, 0));
        same("26 8 rows", Check.STATE, maker, net -> net.row(0, 0, 9, 0, 9, 1, 1));
        same("26 8 rows", Check.STATE, maker, net -> net.row(1, 0, 9, 0, 9, 1, 1));
        same("21 none", Check.STATE, JoinNet::new, net -> net.takeBack(1));
        same("21 not six", Check.STATE, () -> BoundsTest.fired(5), net -> net.takeBack(6));
        same("2 a part of it has room", Check.STATE, () -> almostFull(), net -> net.feed(0x3131_3131L, 4));
    }

    private static JoinNet almostFull() {
        JoinNet net = new JoinNet();
        for (int i = 0; i < 157; i++) {
            net.feed('0', 1);
        }
        return net;
    }

    /** All that is told of a text that is refused is that the tape is used up. */
    private static void tapeIsUsedUp() {
        String[] bad = {"", "0,0,1:a(_,_,_)=>^", "0,0,1:a(x,_,_)b(x,_,_)=>^1^2^3^0x", "f(1,2,3):a(_,_,_)b(x,y,z)<", "x"};
        for (String text : bad) {
            String due = story(() -> rich(""), null);
            Check.Maker maker = () -> rich(text);
            check.isThrown(Check.STATE, "9 " + text, () -> maker.make().rule());
            check.isTrue("9 uses up " + text, due.equals(story(maker, JoinNet::rule)));
            check.isThrown(Check.STATE, "23 " + text, () -> maker.make().goal());
            check.isTrue("23 uses up " + text, due.equals(story(maker, JoinNet::goal)));
        }
        String due = story(() -> full(false), null);
        check.isThrown(Check.STATE, "9 10 rules", () -> full(true).rule());
        check.isTrue("9 uses the tape up", due.equals(story(() -> full(true), JoinNet::rule)));
        check.isThrown(Check.STATE, "23 6 goal rules", () -> full(true).goal());
        check.isTrue("23 uses the tape up", due.equals(story(() -> full(true), JoinNet::goal)));
        Check.Maker good = () -> {
            JoinNet net = full(false);
            Check.feed(net, "h(1,2,3):a(_,_,_)");
            return net;
        };
        check.isThrown(Check.STATE, "23 6 goal rules", () -> good.make().goal());
        check.isTrue("23 uses the tape up", due.equals(story(good, JoinNet::goal)));
    }
}
