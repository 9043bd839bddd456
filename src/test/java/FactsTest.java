/** Promises 1 to 8: a new object, the tape, facts and time. */
public final class FactsTest {
    private static final int NONE = JoinNet.NONE;
    private static final Check check = new Check("FactsTest");

    public static void main(String[] args) {
        newObject();
        feed();
        tell();
        tellWrongly();
        gradesAreCombined();
        drop();
        pass();
        passInOrder();
        factsAndPlaces();
        partsOfFacts();
        check.end();
    }

    private static void newObject() {
        JoinNet net = new JoinNet();
        check.due("1 facts", 0, net.facts());
        check.due("1 matches", 0, net.matches());
        check.due("1 shared", 0, net.shared(true) + net.shared(false));
        check.due("1 agenda", 0, net.agenda());
        check.due("1 next", NONE, net.next(0));
        check.due("1 fire", NONE, net.fire());
        check.due("1 run", 0, net.run(50));
        check.due("1 loop", 0, net.loop());
        check.isTrue("1 follows", !net.follows(0, 0, 0, 0));
        for (int table = 0; table < 2; table++) {
            check.due("1 outcome", NONE, net.outcome(table, 0, 0));
            check.due("1 hole", 0, net.hole(table, false));
            check.due("1 overlap", NONE, net.hole(table, true));
            check.due("1 policy", JoinNet.ONE, net.policy(table, JoinNet.SUM));
        }
        check.due("1 first fact", 0, net.tell(0, 0, 0, 0, 100, NONE));
        check.due("1 time", 0, net.fact(0, 5));
        check.due("1 focus", 2, net.focus(0));
        check.due("NONE", -1000, JoinNet.NONE);
        check.due("ONE", 0, JoinNet.ONE);
        check.due("FIRST", 1, JoinNet.FIRST);
        check.due("RANK", 2, JoinNet.RANK);
        check.due("SUM", 3, JoinNet.SUM);
    }

    private static void feed() {
        JoinNet net = new JoinNet();
        check.badArgument("2 n 0", () -> net.feed(0, 0));
        check.badArgument("2 n 9", () -> net.feed(0, 9));
        check.badArgument("2 n -1", () -> net.feed(0, -1));
        for (int i = 1; i <= 19; i++) {
            check.due("2 feed", 8 * i, net.feed(-1, 8));
        }
        check.due("2 feed", 159, net.feed(0, 7));
        check.badState("2 161 bytes", () -> net.feed(0, 2));
        check.badArgument("2 n first", () -> net.feed(0, 9));
        check.due("2 the 160th", 160, net.feed(0, 1));
        check.badState("2 full", () -> net.feed(0, 1));
        check.badState("2 uses it up", net::rule);
        check.due("2 empty again", 1, net.feed('x', 1));
        check.badState("2 goal uses it up", net::goal);
        // The lowest byte first, and none of the bytes above.
        JoinNet other = new JoinNet();
        Check.feed(other, "0,0,1:a(_,_,_)=>");
        other.feed(0x7777_7777_7777_312dL, 2);
        check.due("2 lowest bytes", 0, other.rule());
        check.badState("2 used up by a rule", other::rule);
        // 160 bytes that are one text.
        StringBuilder text = new StringBuilder("0,0,100:a(x,_,_)=>+b(x,0,0");
        while (text.length() < 158) {
            text.append("+1");
        }
        check.due("2 a text of 160", 0, Check.rule(new JoinNet(), text.substring(0, 158) + "0)"));
    }

    private static void tell() {
        JoinNet net = new JoinNet();
        check.due("3 first", 0, net.tell(7, -999, 999, 0, 0, 100));
        check.due("3 second", 1, net.tell(7, -999, 999, 1, 100, 1));
        check.due("3 again", 0, net.tell(7, -999, 999, 0, 50, 1));
        check.due("3 another kind", 2, net.tell(0, -999, 999, 0, 50, NONE));
        check.due("3 facts", 3, net.facts());
        // The life of one that is there does not matter: 100 was told.
        net.pass(99);
        check.isTrue("3 life", Check.has(net, 'h', -999, 999, 0));
        net.pass(1);
        check.isTrue("3 life is over", !Check.has(net, 'h', -999, 999, 0));
        check.due("3 a number is not used again", 3, net.tell(7, -999, 999, 0, 50, NONE));
        JoinNet full = new JoinNet();
        for (int i = 0; i < 20; i++) {
            check.due("3 fill", i, Check.fact(full, 'a', i, 0, 0));
        }
        check.badState("3 the 21st", () -> full.tell(0, 20, 0, 0, 100, NONE));
        check.badArgument("3 argument first", () -> full.tell(0, 1000, 0, 0, 100, NONE));
        check.due("3 there already", 19, Check.fact(full, 'a', 19, 0, 0));
        check.due("3 facts", 20, full.facts());
        full.drop(3);
        check.due("3 room again", 20, Check.fact(full, 'a', 20, 0, 0));
        // A belief that is told has a plain reason then, and keeps having no end.
        JoinNet net2 = Check.withRules("0,0,100:a(x,_,_)=>&b(x,0,0)");
        Check.fact(net2, 'a', 1, 0, 0);
        net2.fire();
        check.due("3 a belief", 1, net2.tell(1, 1, 0, 0, 40, 1));
        check.due("3 plain too", 1, net2.fact(1, 6));
        net2.pass(5);
        net2.drop(0);
        check.isTrue("3 stays", Check.has(net2, 'b', 1, 0, 0));
    }

    private static void tellWrongly() {
        JoinNet net = new JoinNet();
        check.badArgument("3 kind 8", () -> net.tell(8, 0, 0, 0, 0, NONE));
        check.badArgument("3 kind -1", () -> net.tell(-1, 0, 0, 0, 0, NONE));
        for (int wrong : new int[] {-1000, 1000, Integer.MIN_VALUE, Integer.MAX_VALUE}) {
            check.badArgument("3 one", () -> net.tell(0, wrong, 0, 0, 0, NONE));
            check.badArgument("3 two", () -> net.tell(0, 0, wrong, 0, 0, NONE));
            check.badArgument("3 three", () -> net.tell(0, 0, 0, wrong, 0, NONE));
        }
        check.badArgument("3 grade -1", () -> net.tell(0, 0, 0, 0, -1, NONE));
        check.badArgument("3 grade 101", () -> net.tell(0, 0, 0, 0, 101, NONE));
        check.badArgument("3 life 0", () -> net.tell(0, 0, 0, 0, 0, 0));
        check.badArgument("3 life 101", () -> net.tell(0, 0, 0, 0, 0, 101));
        check.badArgument("3 life -1", () -> net.tell(0, 0, 0, 0, 0, -1));
        check.due("3 nothing told", 0, net.facts());
        check.due("3 no number used", 0, net.tell(0, 0, 0, 0, 0, NONE));
        check.badArgument("3 of one that is there", () -> net.tell(0, 0, 0, 0, 0, 0));
    }

    private static void gradesAreCombined() {
        JoinNet net = new JoinNet();
        net.tell(0, 0, 0, 0, 50, NONE);
        net.tell(0, 0, 0, 0, 50, NONE);
        check.due("3 50 and 50", 75, net.fact(0, 4));
        net.tell(0, 0, 0, 0, 33, NONE);
        // 75 + 33 - 24.75 = 83.25
        check.due("3 75 and 33", 83, net.fact(0, 4));
        net.tell(0, 0, 0, 0, 3, NONE);
        // 83 + 3 - 2.49 = 83.51: the whole is rounded, not the product.
        check.due("3 83 and 3", 83, net.fact(0, 4));
        net.tell(0, 0, 0, 0, 100, NONE);
        check.due("3 and 100", 100, net.fact(0, 4));
        net.tell(0, 1, 0, 0, 0, NONE);
        net.tell(0, 1, 0, 0, 0, NONE);
        check.due("3 0 and 0", 0, net.fact(1, 4));
    }

    private static void drop() {
        JoinNet net = Check.withRules("0,0,100:a(x,_,_)=>&b(x,0,0)", "0,0,100:b(x,_,_)=>&c(x,0,0)&a(x,0,0)");
        Check.fact(net, 'a', 1, 0, 0);
        Check.fact(net, 'h', 1, 0, 0);
        net.run(9);
        check.due("4 facts", 4, net.facts());
        check.badIndex("4 none", () -> net.drop(4));
        check.badIndex("4 -1", () -> net.drop(-1));
        check.badIndex("4 NONE", () -> net.drop(NONE));
        check.due("4 whatever its reasons are, what rests on it goes too", 1, net.drop(0));
        check.badIndex("4 again", () -> net.drop(0));
        check.due("4 the last", 0, net.drop(1));
    }

    private static void pass() {
        JoinNet net = new JoinNet();
        check.badArgument("5 0", () -> net.pass(0));
        check.badArgument("5 101", () -> net.pass(101));
        check.badArgument("5 -1", () -> net.pass(-1));
        net.tell(0, 0, 0, 0, 100, 3);
        check.due("5 pass", 2, net.pass(2));
        net.tell(0, 1, 0, 0, 100, 1);
        check.due("5 time of it", 2, net.fact(1, 5));
        check.due("5 both there", 2, net.facts());
        check.due("5 pass", 3, net.pass(1));
        check.due("5 both gone", 0, net.facts());
        check.due("5 100", 103, net.pass(100));
        // Matches that live by ages end with a tick.
        JoinNet aged = Check.withRules("0,0,100:a(x,_,_)<2=>&b(x,0,0)");
        Check.fact(aged, 'a', 1, 0, 0);
        aged.fire();
        aged.pass(1);
        check.due("5 young", 2, aged.facts());
        check.due("5 young", 1, aged.matches());
        aged.pass(1);
        check.due("5 not young", 1, aged.facts());
        check.due("5 not young", 0, aged.matches());
    }

    private static void passInOrder() {
        // As c goes ahead of a, "no c for an a" comes to hold again in between, and is open then.
        String noMatch = "0,0,100:b(_,_,_)*a(x,_,_)c(x,_,_)=>^0";
        JoinNet net = Check.withRules(noMatch);
        Check.fact(net, 'b', 0, 0, 0);
        net.tell(2, 1, 0, 0, 100, 2);
        net.tell(0, 1, 0, 0, 100, 2);
        net.fire();
        check.due("5 fired", 0, net.agenda());
        net.pass(2);
        check.due("5 c went first", 1, net.agenda());
        JoinNet other = Check.withRules(noMatch);
        Check.fact(other, 'b', 0, 0, 0);
        other.fire();
        other.tell(2, 1, 0, 0, 100, 2);
        check.due("5 still fired", 0, other.agenda());
        other.tell(0, 1, 0, 0, 100, 2);
        other.drop(2);
        other.pass(2);
        check.due("5 still fired", 0, other.agenda());
        JoinNet third = Check.withRules(noMatch);
        Check.fact(third, 'b', 0, 0, 0);
        third.tell(2, 1, 0, 0, 100, 3);
        third.tell(0, 1, 0, 0, 100, 2);
        third.fire();
        third.pass(3);
        check.due("5 a went first", 0, third.agenda());
        // By numbers, and not by the room that the facts have: that of the first fact is used again.
        for (int late = 0; late < 2; late++) {
            JoinNet net4 = Check.withRules(noMatch);
            Check.fact(net4, 'h', 0, 0, 0);
            Check.fact(net4, 'b', 0, 0, 0);
            net4.tell(late == 0 ? 0 : 7, 1, 0, 0, 100, 2);
            net4.drop(0);
            net4.tell(late == 0 ? 2 : 0, 1, 0, 0, 100, 2);
            net4.tell(late == 0 ? 7 : 2, 1, 0, 0, 100, 2);
            net4.fire();
            net4.pass(2);
            check.due("5 by numbers", 0, net4.agenda());
        }
        JoinNet all = new JoinNet();
        for (int i = 0; i < 20; i++) {
            all.tell(0, i, 0, 0, 100, 1);
        }
        all.pass(1);
        check.due("5 all of 20", 0, all.facts());
    }

    private static void factsAndPlaces() {
        JoinNet net = new JoinNet();
        check.badIndex("7 none", () -> net.factAt(0));
        for (int i = 0; i < 4; i++) {
            Check.fact(net, 'a', i, 0, 0);
        }
        net.drop(1);
        check.due("6 facts", 3, net.facts());
        Check.fact(net, 'a', 9, 0, 0);
        check.due("6 facts", 4, net.facts());
        int[] numbers = {0, 2, 3, 4};
        for (int place = 0; place < 4; place++) {
            check.due("7 factAt", numbers[place], net.factAt(place));
        }
        check.badIndex("7 4", () -> net.factAt(4));
        check.badIndex("7 -1", () -> net.factAt(-1));
    }

    private static void partsOfFacts() {
        JoinNet net = Check.withRules("0,0,50:a(x,y,_)=>&b(x,y,-7)", "0,0,100:a(_,_,_)=>&b(1,2,-7)");
        net.pass(4);
        net.tell(0, 1, 2, 3, 4, NONE);
        net.fire();
        net.fire();
        // The grades of the supports are 2 and 4: 2 + 4 - 0.08.
        int[] belief = {1, 1, 2, -7, 5, 4, 0, 2};
        int[] plain = {0, 1, 2, 3, 4, 4, 1, 0};
        for (int what = 0; what < 8; what++) {
            check.due("8 fact 0, " + what, plain[what], net.fact(0, what));
            check.due("8 fact 1, " + what, belief[what], net.fact(1, what));
        }
        net.tell(1, 1, 2, -7, 49, NONE);
        // In each other order it would be 51.
        check.due("8 plain first, then as they came", 52, net.fact(1, 4));
        check.due("8 plain", 1, net.fact(1, 6));
        check.badArgument("8 what 8", () -> net.fact(0, 8));
        check.badArgument("8 what -1", () -> net.fact(0, -1));
        check.badIndex("8 no fact", () -> net.fact(2, 0));
        check.badIndex("8 no fact first", () -> net.fact(2, 8));
        check.badIndex("8 no fact -1", () -> net.fact(-1, 0));
    }
}
