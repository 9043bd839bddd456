/** Promises 23 to 28: goals and tables. */
public final class GoalsTest {
    private static final int NONE = JoinNet.NONE;
    private static final Check check = new Check("GoalsTest");

    public static void main(String[] args) {
        goal();
        follows();
        followsTooMuch();
        policy();
        row();
        outcome();
        hole();
        check.end();
    }

    private static void goal() {
        JoinNet net = new JoinNet();
        String[] good = {"a(1,2,3):b(_,_,_)", "h(x,x,-999):a(x,_,_)", "a(x,y,z):a(x,_,_)b(_,y,_)c(_,_,z)",
            "a(p,0,z):a(p,p,z)a(_,-0,001)", "a(0,0,0):a(x,x,x)a(x,x,x)", "b(x,y,0):a(x,y,_)"};
        for (int i = 0; i < good.length; i++) {
            check.due("23 goal " + good[i], i + 1, Check.goal(net, good[i]));
        }
        Check.feed(net, good[0]);
        check.badState("23 6 are there", net::goal);
        check.due("23 the tape is used up", 1, net.feed('x', 1));
        check.badState("23 bad and 6", net::goal);
        String[] bad = {"", "a(1,2,3)", "a(1,2,3):", "a(1,2,3)b(_,_,_)", "a(_,2,3):b(_,_,_)", "a(x,2,3):b(_,_,_)",
            "a(1,2,3):b(_,_)", "a(1,2):b(_,_,_)", "i(1,2,3):b(_,_,_)", "(1,2,3):b(_,_,_)", "a(1,2,3):(_,_,_)", "a(1,2,3):i(_,_,_)", "a(1,2,3):b(x+1,x,_)",
            "a(1,2,3):b(x,x+1,_)", "a(1,2,3):b(x,<x,_)", "a(1,2,3):b(<1,_,_)", "a(1,2,3):b(#1,_,_)", "a(1,2,3):b(>1,_,_)",
            "a(1,2,3):b(_,_,_)<3", "a(1,2,3):b(_,_,_)b(_,_,_)/1", "a(1,2,3):!b(_,_,_)", "a(1,2,3):b(@,_,_)",
            "a(x+1,2,3):b(x,_,_)", "a(1,2,3):b(_,_,_)b(_,_,_)b(_,_,_)b(_,_,_)", "a(1,2,3):b(_,_,_)x",
            "a(1,2,3):b(1000,_,_)", "a(1,2,3):b(o,_,_)", "a(1,2,3):b(_,_,_)?c(_,_,_)", "0,0,1:a(_,_,_)=>^0"};
        for (String text : bad) {
            check.isNoGoal(text);
        }
        JoinNet other = new JoinNet();
        Check.feed(other, "a(1,2,3):");
        check.badState("23 bad", other::goal);
        Check.feed(other, "h(1,2,3):b(_,_,_)x");
        check.badState("23 bad", other::goal);
        Check.fact(other, 'b', 1, 1, 1);
        check.isTrue("23 a bad one tells nothing", !other.follows(7, 1, 2, 3));
        other.drop(0);
        check.due("23 a bad one does not count", 1, Check.goal(other, "a(1,2,3):b(_,_,_)"));
        check.isTrue("23 nor tells anything", !other.follows(0, 1, 2, 3));
    }

    private static void follows() {
        JoinNet net = new JoinNet();
        check.badArgument("24 kind 8", () -> net.follows(8, 0, 0, 0));
        check.badArgument("24 kind -1", () -> net.follows(-1, 0, 0, 0));
        for (int wrong : new int[] {-1000, 1000}) {
            check.badArgument("24 one", () -> net.follows(0, wrong, 0, 0));
            check.badArgument("24 two", () -> net.follows(0, 0, wrong, 0));
            check.badArgument("24 three", () -> net.follows(0, 0, 0, wrong));
        }
        Check.goal(net, "b(x,y,0):a(x,y,_)");
        Check.goal(net, "b(x,z,0):b(x,y,_)a(y,z,_)");
        Check.goal(net, "c(-1,x,x):b(x,x,0)d(_,_,7)");
        for (int i = 0; i < 5; i++) {
            Check.fact(net, 'a', i, (i + 1) % 5, 9);
        }
        check.isTrue("24 a fact", net.follows(0, 1, 2, 9));
        check.isTrue("24 no fact", !net.follows(0, 1, 3, 9));
        check.isTrue("24 one step", net.follows(1, 1, 2, 0));
        check.isTrue("24 round the ring", net.follows(1, 3, 2, 0) && net.follows(1, 3, 3, 0));
        check.isTrue("24 not", !net.follows(1, 3, 5, 0) && !net.follows(1, 3, 2, 1));
        check.isTrue("24 no d", !net.follows(2, -1, 2, 2));
        Check.fact(net, 'd', 0, 0, 7);
        check.isTrue("24 with d", net.follows(2, -1, 2, 2));
        net.drop(0);
        check.isTrue("24 the ring is open", !net.follows(1, 3, 3, 0) && net.follows(1, 3, 0, 0));
        check.due("24 no facts come of it", 5, net.facts());
        JoinNet same = new JoinNet();
        Check.goal(same, "b(x,y,z):a(x,_,_)a(y,_,_)a(z,_,_)");
        Check.fact(same, 'a', 1, 0, 0);
        Check.fact(same, 'a', 2, 0, 0);
        check.isTrue("24 the same thing for several", same.follows(1, 1, 1, 2) && same.follows(1, 2, 2, 2));
        Check.goal(same, "c(p,z,-5):b(p,p,z)b(z,z,_)");
        check.isTrue("24 the same value", same.follows(2, 1, 2, -5) && !same.follows(2, 3, 3, -5));
        same.tell(1, 3, 4, 1, 100, NONE);
        check.isTrue("24 not the same value", !same.follows(2, 3, 1, -5) && !same.follows(2, 4, 1, -5));
        // Goal rules say nothing to the firing, and are not taken back by it.
        check.due("24 no matches", 0, same.matches());
    }

    private static void followsTooMuch() {
        JoinNet net = new JoinNet();
        Check.goal(net, "b(x,y,0):a(x,_,_)a(y,_,_)");
        for (int i = 0; i < 11; i++) {
            Check.fact(net, 'a', i, 0, 0);
        }
        check.isTrue("24 11 and 121", net.follows(1, 10, 10, 0));
        for (int i = 0; i < 9; i++) {
            Check.fact(net, 'h', i, 0, 0);
        }
        check.isTrue("24 20 and 121", net.follows(7, 8, 0, 0));
        Check.goal(net, "c(x,0,0):h(x,_,_)");
        check.isTrue("24 20, 121 and 9 are 150", net.follows(2, 8, 0, 0));
        Check.goal(net, "d(0,0,0):h(0,_,_)");
        check.badState("24 151", () -> net.follows(3, 0, 0, 0));
        check.badState("24 151, also of a fact", () -> net.follows(0, 0, 0, 0));
        check.badArgument("24 argument first", () -> net.follows(8, 0, 0, 0));
        net.drop(19);
        check.isTrue("24 149", net.follows(3, 0, 0, 0));
        // What follows already counts once.
        Check.goal(net, "b(x,0,0):a(x,_,_)");
        check.isTrue("24 still 149", net.follows(3, 0, 0, 0));
    }

    private static void policy() {
        JoinNet net = new JoinNet();
        check.badIndex("25 table 2", () -> net.policy(2, 0));
        check.badIndex("25 table -1", () -> net.policy(-1, 0));
        check.badIndex("25 index first", () -> net.policy(2, 4));
        check.badArgument("25 policy 4", () -> net.policy(0, 4));
        check.badArgument("25 policy -1", () -> net.policy(1, -1));
        check.due("25 ONE", JoinNet.ONE, net.policy(0, JoinNet.SUM));
        check.due("25 SUM", JoinNet.SUM, net.policy(0, JoinNet.RANK));
        check.due("25 RANK", JoinNet.RANK, net.policy(0, JoinNet.FIRST));
        check.due("25 FIRST", JoinNet.FIRST, net.policy(0, JoinNet.ONE));
        check.due("25 the other table", JoinNet.ONE, net.policy(1, JoinNet.FIRST));
    }

    private static void row() {
        JoinNet net = new JoinNet();
        check.badIndex("26 table 2", () -> net.row(2, 0, 0, 0, 0, 0, 0));
        check.badIndex("26 table -1", () -> net.row(-1, 0, 0, 0, 0, 0, 0));
        check.badIndex("26 index first", () -> net.row(2, 1, 0, 0, 0, 0, 0));
        int[][] bad = {{-1, 0, 0, 0, 0, 0}, {10, 10, 0, 0, 0, 0}, {1, 0, 0, 0, 0, 0}, {0, 10, 0, 0, 0, 0}, {0, 0, -1, 0, 0, 0},
            {0, 0, 10, 10, 0, 0}, {0, 0, 1, 0, 0, 0}, {0, 0, 0, 10, 0, 0}, {0, 0, 0, 0, -100, 0}, {0, 0, 0, 0, 100, 0},
            {0, 0, 0, 0, 0, -1}, {0, 0, 0, 0, 0, 10}};
        for (int[] b : bad) {
            check.badArgument("26 " + java.util.Arrays.toString(b), () -> net.row(0, b[0], b[1], b[2], b[3], b[4], b[5]));
        }
        for (int i = 1; i <= 8; i++) {
            check.due("26 row", i, net.row(0, 0, 9, 9, 9, 99, 9));
        }
        check.badState("26 8 are there", () -> net.row(0, 0, 0, 0, 0, 0, 0));
        check.badArgument("26 argument first", () -> net.row(0, 1, 0, 0, 0, 0, 0));
        check.due("26 the other table", 1, net.row(1, 9, 9, 0, 9, -99, 0));
        check.due("26 outcome", -99, net.outcome(1, 9, 5));
        net.policy(0, JoinNet.SUM);
        check.due("26 all of them", 792, net.outcome(0, 5, 9));
    }

    private static void outcome() {
        JoinNet net = new JoinNet();
        net.row(1, 0, 4, 0, 9, 10, 3);
        net.row(1, 3, 9, 2, 5, 20, 7);
        net.row(1, 4, 4, 5, 5, 40, 7);
        net.row(1, 4, 4, 5, 5, -80, 0);
        int[][] due = {{10, NONE, NONE}, {10, 10, 10}, {10, 20, 20}, {10, 30, -10}};
        for (int policy = 0; policy < 4; policy++) {
            net.policy(1, policy);
            check.due("27 one hits", due[policy][0], net.outcome(1, 0, 0));
            check.due("27 two hit", due[policy][1], net.outcome(1, 3, 2));
            check.due("27 four hit", due[policy][2], net.outcome(1, 4, 5));
            check.due("27 edges", 10, net.outcome(1, 4, 9));
            check.due("27 edges", 20, net.outcome(1, 9, 5));
            check.due("27 the other is off", NONE, net.outcome(1, 9, 6));
            check.due("27 the one is off", NONE, net.outcome(1, 999, 5));
            check.due("27 the one is off", NONE, net.outcome(1, -999, 5));
            check.due("27 the other table", NONE, net.outcome(0, 0, 0));
        }
        check.badIndex("27 table 2", () -> net.outcome(2, 0, 0));
        check.badIndex("27 table -1", () -> net.outcome(-1, 0, 0));
        check.badIndex("27 index first", () -> net.outcome(2, 1000, 0));
        for (int wrong : new int[] {-1000, 1000}) {
            check.badArgument("27 one", () -> net.outcome(0, wrong, 0));
            check.badArgument("27 other", () -> net.outcome(0, 0, wrong));
        }
    }

    private static void hole() {
        JoinNet net = new JoinNet();
        check.badIndex("28 table 2", () -> net.hole(2, true));
        check.badIndex("28 table -1", () -> net.hole(-1, false));
        check.due("28 empty", 0, net.hole(0, false));
        check.due("28 empty", NONE, net.hole(0, true));
        net.row(0, 0, 2, 0, 9, 1, 0);
        check.due("28 first", 30, net.hole(0, false));
        net.row(0, 3, 9, 0, 3, 1, 0);
        check.due("28 the other first", 34, net.hole(0, false));
        check.due("28 no overlap", NONE, net.hole(0, true));
        net.row(0, 3, 9, 3, 9, 1, 0);
        check.due("28 no hole", NONE, net.hole(0, false));
        check.due("28 overlap", 33, net.hole(0, true));
        net.row(0, 9, 9, 0, 0, 1, 0);
        net.row(0, 2, 2, 9, 9, 1, 0);
        check.due("28 the least", 29, net.hole(0, true));
        check.due("28 the other table", 0, net.hole(1, false));
        net.row(1, 0, 9, 0, 8, 1, 0);
        check.due("28 9", 9, net.hole(1, false));
        net.row(1, 0, 8, 9, 9, 1, 0);
        check.due("28 99", 99, net.hole(1, false));
    }
}
