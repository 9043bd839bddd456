import java.util.Arrays;
import java.util.HashSet;
import java.util.List;
import java.util.Set;

/** The sentences of Terms, of texts, facts and rules: each bound from both sides. */
public final class TermsTest {
    private static final int NONE = JoinNet.NONE;
    private static final String VARIABLES = "pqrstuvwxyz";
    private static final Check check = new Check("TermsTest");

    public static void main(String[] args) {
        whoTakesTheTapeOver();
        kinds();
        valuesAtTheirBounds();
        numbers();
        noTwoAlike();
        atMostTwenty();
        lives();
        plainAndSupports();
        grades();
        heads();
        numbersOfConditions();
        numbersOfActions();
        digitsOfNumbers();
        letters();
        noBlanks();
        suffixes();
        digitsOfActions();
        oneSummedSlot();
        tests();
        younger();
        later();
        whereVariablesGetValues();
        conditionsByFacts();
        nearestSums();
        expressionsStepByStep();
        endsOfExpressions();
        matchesHoldAsLong();
        unlikeTests();
        unlikeBeginnings();
        check.end();
    }

    private static int matchesOf(String conditions, int... values) {
        JoinNet net = Check.withRules("0,0,100:" + conditions + "=>^0");
        for (int i = 0; i + 3 < values.length; i += 4) {
            net.tell(values[i], values[i + 1], values[i + 2], values[i + 3], 100, NONE);
        }
        return net.matches();
    }

    private static void due(String conditions, int want, int... values) {
        check.due(conditions, want, matchesOf(conditions, values));
    }

    /** What b gets in its first slot, from a rule on the fact a(one,two,0). */
    private static int reckoned(JoinNet net, String expression, int one, int two) {
        Check.rule(net, "0,0,100:a(x,y,_)=>+b(" + expression + ",0,0)");
        Check.fact(net, 'a', one, two, 0);
        net.fire();
        return net.fact(1, 1);
    }

    private static void isReckoned(String expression, int want, int one, int two) {
        check.due(expression + " of " + one + " and " + two, want, reckoned(new JoinNet(), expression, one, two));
    }

    // ---- texts and facts

    private static void whoTakesTheTapeOver() {
        String rule = "0,0,100:a(_,_,_)=>^0";
        String goal = "a(1,2,3):b(_,_,_)";
        JoinNet net = Check.withRules(rule);
        check.due("a rule uses the tape up", 1, net.feed('x', 1));
        check.badState("no rule", net::rule);
        check.due("no rule uses it up", 1, net.feed('x', 1));
        check.badState("no goal rule", net::goal);
        check.due("no goal rule uses it up", 17, feed(net, goal));
        check.due("a goal rule", 1, net.goal());
        check.due("a goal rule uses it up", 1, net.feed('x', 1));
        check.badArgument("a bad n", () -> net.feed('x', 9));
        check.due("which does not", 2, net.feed('x', 1));
        check.badState("no rule", net::rule);
        check.badState("nothing on the tape", net::rule);
        check.badState("nothing on the tape", net::goal);
        for (int i = 1; i < 10; i++) {
            Check.rule(net, rule);
        }
        Check.feed(net, rule);
        check.badState("10 rules", net::rule);
        check.due("10 rules use it up", 17, feed(net, goal));
        for (int i = 2; i <= 6; i++) {
            check.due("goal rules", i, net.goal());
            Check.feed(net, goal);
        }
        check.badState("6 goal rules", net::goal);
        check.due("6 goal rules use it up", 8, net.feed(0, 8));
        for (int i = 2; i <= 20; i++) {
            check.due("160 again", 8 * i, net.feed(0, 8));
        }
        check.badState("161", () -> net.feed(0, 1));
        check.badState("what is no rule", net::rule);
        check.due("after which there is room", 8, net.feed(0, 8));
    }

    private static int feed(JoinNet net, String text) {
        Check.feed(net, text.substring(0, text.length() - 1));
        return net.feed(text.charAt(text.length() - 1), 1);
    }

    private static void kinds() {
        for (int kind = 0; kind < 8; kind++) {
            char letter = (char) ('a' + kind);
            JoinNet net = Check.withRules("0,0,100:K(_,_,_)=>+K(1,1,1)".replace('K', letter));
            Check.goal(net, "K(2,2,2):K(0,_,_)".replace('K', letter));
            for (int other = 0; other < 8; other++) {
                net.tell(other, 0, 0, 0, 100, NONE);
            }
            check.due("kind " + letter, kind, net.next(1));
            check.due("kind " + letter, 1, net.matches());
            net.fire();
            check.due("kind " + letter, kind, net.fact(8, 0));
            check.isTrue("kind " + letter, net.follows(kind, 2, 2, 2) && !net.follows((kind + 1) % 8, 2, 2, 2));
        }
        check.isNoRule("0,0,1:i(_,_,_)=>^0");
        check.isNoRule("0,0,1:`(_,_,_)=>^0");
        check.isNoRule("0,0,1:a(_,_,_)=>+i(0,0,0)");
        check.isNoRule("0,0,1:a(_,_,_)=>&`(0,0,0)");
        check.isNoGoal("i(0,0,0):a(_,_,_)");
        check.isNoGoal("a(0,0,0):`(_,_,_)");
    }

    private static void valuesAtTheirBounds() {
        for (int value : new int[] {-999, -998, 0, 998, 999}) {
            String conditions = "a(V,V,V)".replace("V", String.valueOf(value));
            due(conditions, 1, 0, value, value, value);
            due(conditions, 0, 0, value, value, value < 0 ? value + 1 : value - 1);
            JoinNet net = Check.withRules("0,0,100:" + conditions + "=>+b(V,V,V)".replace("V", String.valueOf(value)));
            Check.fact(net, 'a', value, value, value);
            net.fire();
            check.isTrue("values " + value, Check.has(net, 'b', value, value, value));
            check.isTrue("values " + value, net.follows(1, value, value, value));
            check.isTrue("values " + value, net.wouldBe(1, 1, value, value, value));
        }
    }

    private static void numbers() {
        JoinNet net = Check.withRules("0,0,100:a(x,_,_)=>+b(x,0,0)&c(x,0,0)~1.0=x+1");
        for (int i = 0; i < 3; i++) {
            check.due("from 0 as they come", i, Check.fact(net, 'h', i, 0, 0));
        }
        check.due("one that is there", 1, Check.fact(net, 'h', 1, 0, 0));
        check.due("as they come", 3, Check.fact(net, 'a', 0, 0, 0));
        net.drop(2);
        check.due("not that of one that went", 4, Check.fact(net, 'h', 2, 0, 0));
        net.fire();
        check.due("a plain action's", 1, net.fact(5, 0));
        check.badIndex("a belief's, which has gone with a", () -> net.fact(6, 0));
        check.due("that of what is put in its place", 1, net.fact(7, 1));
        check.badIndex("what went has none", () -> net.fact(3, 0));
        check.due("the next", 8, Check.fact(net, 'h', 9, 0, 0));
    }

    private static void noTwoAlike() {
        JoinNet net = new JoinNet();
        int[][] unlike = {{0, 1, 2, 3}, {1, 1, 2, 3}, {0, 2, 2, 3}, {0, 1, 3, 3}, {0, 1, 2, 4}, {0, -1, 2, 3}, {0, 3, 2, 1}};
        for (int round = 0; round < 2; round++) {
            for (int i = 0; i < unlike.length; i++) {
                int[] fact = unlike[i];
                check.due("alike in kind and slots", i, net.tell(fact[0], fact[1], fact[2], fact[3], 10, NONE));
            }
            check.due("no two that are alike", 7, net.facts());
        }
        // Nor does an action take one for the other.
        int[][] near = {{2, 1, 1, 2}, {2, 1, 2, 2}, {2, 1, 3, 3}, {2, 1, 2, 1}, {2, 3, 2, 3}, {2, 2, 2, 3}, {1, 1, 2, 3}, {2, 1, 3, 2}};
        for (String action : new String[] {"+c(x,2,3)", "&c(x,2,3)", "~1.0=x"}) {
            for (int[] other : near) {
                String kind = action.startsWith("~") ? "c(x,2,4)" : "a(x,_,_)";
                JoinNet one = Check.withRules("0,0,100:" + kind + "=>" + action.replace("~1.0=x", "~1.2=3"));
                one.tell(other[0], other[1], other[2], other[3], 10, NONE);
                one.tell(action.startsWith("~") ? 2 : 0, 1, 2, 4, 10, NONE);
                one.fire();
                check.isTrue(action, Check.has(one, 'c', 1, 2, 3));
                check.due(action + " is not combined with another one", 10, one.fact(0, 4));
            }
            String kind = action.startsWith("~") ? "c(x,2,4)" : "a(x,_,_)";
            JoinNet same = Check.withRules("0,0,100:" + kind + "=>" + action.replace("~1.0=x", "~1.2=3"));
            same.tell(2, 1, 2, 3, 50, NONE);
            same.tell(action.startsWith("~") ? 2 : 0, 1, 2, 4, 50, NONE);
            same.fire();
            check.due(action + " is combined with that one", 75, same.fact(0, 4));
        }
    }

    private static void atMostTwenty() {
        String[] actions = {"+b(0,0,0)", "&b(0,0,0)"};
        for (String action : actions) {
            for (int many = 18; many <= 20; many++) {
                JoinNet net = Check.withRules("0,0,100:a(1,_,_)=>" + action);
                for (int i = 0; i < many; i++) {
                    Check.fact(net, 'a', i, 0, 0);
                }
                net.fire();
                check.due(action + " with " + many, Math.min(20, many + 1), net.facts());
                check.due(action + " with " + many, many < 20 ? 1 : 0, Check.has(net, 'b', 0, 0, 0) ? 1 : 0);
                // That it was not added uses no number.
                net.drop(0);
                check.due("the next number", many < 20 ? many + 1 : 20, Check.fact(net, 'h', 0, 0, 0));
            }
        }
        JoinNet reasons = Check.withRules("0,0,40:a(1,_,_)=>+a(2,0,0)&a(3,0,0)");
        for (int i = 0; i < 20; i++) {
            reasons.tell(0, i, 0, 0, 50, NONE);
        }
        reasons.fire();
        check.due("+ to one that is there: 50 and 20", 60, reasons.fact(2, 4));
        check.due("& to one that is there: 50 and 20", 60, reasons.fact(3, 4));
        check.due("& to one that is there", 1, reasons.fact(3, 7));
    }

    private static void lives() {
        for (int life : new int[] {1, 2, 99, 100}) {
            JoinNet net = new JoinNet();
            net.pass(7);
            check.due("told", 0, net.tell(0, 0, 0, 0, 100, life));
            check.due("the time at which it came", 7, net.fact(0, 5));
            if (life > 1) {
                net.pass(life - 1);
            }
            check.due("life " + life + " is not over", 1, net.facts());
            net.pass(1);
            check.due("life " + life + " is over", 0, net.facts());
        }
        JoinNet net = new JoinNet();
        net.tell(0, 0, 0, 0, 100, NONE);
        net.tell(0, 1, 0, 0, 100, 5);
        net.pass(3);
        // Of one that is there it does not matter, neither to shorten nor to lengthen, nor to begin anew.
        net.tell(0, 0, 0, 0, 100, 1);
        net.tell(0, 1, 0, 0, 100, 100);
        net.pass(1);
        check.due("time 4", 2, net.facts());
        check.due("the time stays that at which it came", 0, net.fact(1, 5));
        net.pass(1);
        check.due("time 5", 1, net.facts());
        for (int i = 0; i < 10; i++) {
            net.pass(100);
        }
        check.due("no end", 1, net.facts());
        check.due("now", 1006, net.pass(1));
        JoinNet jump = new JoinNet();
        jump.tell(0, 0, 0, 0, 100, 30);
        check.due("now", 100, jump.pass(100));
        check.due("over on the way", 0, jump.facts());
        JoinNet added = Check.withRules("0,0,100:a(_,_,_)=>+b(0,0,0)&c(0,0,0)");
        Check.fact(added, 'a', 0, 0, 0);
        added.fire();
        added.pass(100);
        added.pass(100);
        check.due("what is added has no life", 3, added.facts());
    }

    private static void plainAndSupports() {
        JoinNet net = Check.withRules("0,0,100:a(x,_,_)=>+b(x,0,0)&c(x,0,0)", "-1,0,100:a(x,_,_)=>&b(x,0,0)+c(x,0,0)~1.1=1");
        Check.fact(net, 'a', 1, 0, 0);
        int[][] plain = {{1, 0}, {0, 1}};
        int[][] both = {{1, 0}, {1, 0}};
        net.fire();
        for (int i = 0; i < 2; i++) {
            check.due("plain " + i, plain[i][0], net.fact(1 + i, 6));
            check.due("supports " + i, plain[i][1], net.fact(1 + i, 7));
        }
        net.fire();
        for (int i = 0; i < 2; i++) {
            check.due("plain " + i, both[i][0], net.fact(1 + i, 6));
            check.due("supports that hold " + i, both[i][1], net.fact(1 + i, 7));
        }
        check.due("plain, in its place", 1, net.fact(3, 6));
        check.due("told: plain", 1, net.fact(net.tell(5, 0, 0, 0, 0, NONE), 6));
        check.due("told: no supports", 0, net.fact(4, 7));
        JoinNet none = Check.withRules("0,0,0:a(x,_,_)=>+b(x,0,0)&c(x,0,0)");
        none.tell(0, 1, 0, 0, 0, NONE);
        none.fire();
        check.due("plain with grade 0", 1, none.fact(1, 6));
        check.due("a support with grade 0", 1, none.fact(2, 7));
        check.due("grade 0", 0, none.fact(1, 4) + none.fact(2, 4));
    }

    private static void grades() {
        int[][] pairs = {{0, 0, 0}, {0, 100, 100}, {100, 0, 100}, {100, 100, 100}, {1, 1, 1}, {99, 1, 99}, {99, 99, 99},
            {50, 1, 50}, {10, 10, 19}, {0, 7, 7}, {7, 0, 7}, {33, 67, 77}};
        for (int[] pair : pairs) {
            JoinNet net = new JoinNet();
            net.tell(0, 0, 0, 0, pair[0], NONE);
            check.due("alone", pair[0], net.fact(0, 4));
            net.tell(0, 0, 0, 0, pair[1], NONE);
            check.due(pair[0] + " and " + pair[1] + ", the whole rounded down", pair[2], net.fact(0, 4));
            check.due("a plain reason again is no support", 0, net.fact(0, 7));
        }
        // The plain grade, those of two supports, and what is due: the other orders would give another grade.
        int[][] orders = {{49, 2, 4, 52}, {2, 2, 34, 35}, {44, 82, 26, 91}, {89, 89, 45, 98}};
        for (int[] order : orders) {
            for (int told = 0; told < 3; told++) {
                JoinNet net = Check.withRules("5,0," + order[1] + ":a(_,_,_)=>&b(0,0,0)", "4,0," + order[2] + ":a(_,_,_)=>&b(0,0,0)");
                Check.fact(net, 'a', 0, 0, 0);
                for (int step = 0; step < 3; step++) {
                    if (step == told) {
                        net.tell(1, 0, 0, 0, order[0], NONE);
                    } else {
                        net.fire();
                    }
                }
                check.due("the plain one first, then the supports in their order", order[3], net.fact(1, 4));
            }
        }
        JoinNet same = Check.withRules("0,0,50:a(x,_,_)!c(_,_,_)=>&b(0,0,0)&b(0,0,0)&d(0,0,0)");
        Check.fact(same, 'a', 0, 0, 0);
        same.fire();
        check.due("a support of the same match does not come again", 50, same.fact(1, 4));
        check.due("a support of the same match does not come again", 1, same.fact(1, 7));
        check.due("but one of another fact does", 1, same.fact(2, 7));
    }

    // ---- texts of rules

    private static void heads() {
        for (String rank : new String[] {"-99", "-98", "-0", "0", "00", "000", "98", "99", "099", "-099"}) {
            check.isRule(rank + ",0,100:a(_,_,_)=>^0");
        }
        for (String rank : new String[] {"-100", "100", "999", "-999", "", "-", "0099", "+1", "1-", "x", "--1"}) {
            check.isNoRule(rank + ",0,100:a(_,_,_)=>^0");
        }
        for (char unit = 0; unit < 256; unit++) {
            String text = "0," + unit + ",100:a(_,_,_)=>^0";
            if (unit >= '0' && unit <= '3') {
                check.isRule(text);
            } else {
                check.isNoRule(text);
            }
        }
        check.isNoRule("0,00,100:a(_,_,_)=>^0");
        check.isNoRule("0,,100:a(_,_,_)=>^0");
        check.isNoRule("0,-0,100:a(_,_,_)=>^0");
        for (String grade : new String[] {"0", "-0", "000", "1", "99", "100"}) {
            check.isRule("0,0," + grade + ":a(_,_,_)=>^0");
        }
        for (String grade : new String[] {"-1", "101", "999", "-100", "", "-", "0100", "1000"}) {
            check.isNoRule("0,0," + grade + ":a(_,_,_)=>^0");
        }
        // Ranks, units and grades are those that were told.
        JoinNet net = Check.withRules("-99,3,100:a(_,_,_)=>+b(1,0,0)", "-98,3,0:a(_,_,_)=>+b(2,0,0)",
                "98,3,1:a(_,_,_)=>+b(3,0,0)", "99,3,99:a(_,_,_)=>+b(4,0,0)");
        Check.fact(net, 'a', 0, 0, 0);
        check.due("not in unit 0", 0, net.agenda());
        for (int unit = 1; unit <= 3; unit++) {
            net.focus(unit);
            check.due("in unit 3 alone", unit == 3 ? 4 : 0, net.agenda());
        }
        int[] grades = {99, 1, 0, 100};
        for (int i = 0; i < 4; i++) {
            check.due("greater ranks first", 3 - i, net.fire());
            check.due("the rule's grade", grades[i], net.fact(1 + i, 4));
        }
    }

    private static void numbersOfConditions() {
        String[] more = {"!b(_,_,_)", "?b(_,_,_)", "*b(_,_,_)c(_,_,_)", "$t:b(@,_,_)"};
        check.isNoRule("0,0,1:=>^0");
        check.isRule("0,0,1:a(_,_,_)=>^0");
        check.isRule("0,0,1:a(_,_,_)a(_,_,_)a(_,_,_)=>^0");
        check.isNoRule("0,0,1:a(_,_,_)a(_,_,_)a(_,_,_)a(_,_,_)=>^0");
        for (String one : more) {
            check.isNoRule("0,0,1:" + one + "=>^0");
            check.isNoRule("0,0,1:" + one + "a(_,_,_)=>^0");
            check.isRule("0,0,1:a(_,_,_)" + one + "=>^0");
            check.isRule("0,0,1:a(_,_,_)" + one + one.replace('t', 'u') + one.replace('t', 'v') + "=>^0");
            check.isNoRule("0,0,1:a(_,_,_)" + one + one.replace('t', 'u') + one.replace('t', 'v') + one.replace('t', 'w') + "=>^0");
            check.isRule("0,0,1:a(_,_,_)a(_,_,_)a(_,_,_)" + one + "=>^0");
            check.isRule("0,0,1:a(_,_,_)" + one + "a(_,_,_)a(_,_,_)=>^0");
            check.isNoRule("0,0,1:a(_,_,_)a(_,_,_)a(_,_,_)" + one + one.replace('t', 'u') + "=>^0");
            check.isNoRule("0,0,1:a(_,_,_)" + one + "a(_,_,_)a(_,_,_)a(_,_,_)=>^0");
        }
    }

    private static void numbersOfActions() {
        String[] actions = {"+a(0,0,0)", "&a(0,0,0)", "-1", "~1.0=0", "^0"};
        check.isNoRule("0,0,1:a(_,_,_)=>");
        check.isNoRule("0,0,1:a(_,_,_)");
        for (String action : actions) {
            check.isRule("0,0,1:a(_,_,_)=>" + action);
            check.isRule("0,0,1:a(_,_,_)=>" + action + "^0" + action + "^0");
            check.isNoRule("0,0,1:a(_,_,_)=>" + action + "^0" + action + "^0" + action);
            check.isNoRule("0,0,1:a(_,_,_)=>" + action + "x");
        }
        JoinNet net = Check.withRules("0,0,100:a(_,_,_)=>+b(1,0,0)+b(2,0,0)+b(3,0,0)+b(4,0,0)");
        Check.fact(net, 'a', 0, 0, 0);
        net.fire();
        check.due("all four, one after the other", 5, net.facts());
        for (int i = 1; i <= 4; i++) {
            check.due("in their order", i, net.fact(i, 1));
        }
    }

    /** INT = [ "-" ] digit { digit }, with 1 to 3 digits, in each place where one stands. */
    private static void digitsOfNumbers() {
        String[] rules = {"0,0,1:a(N,_,_)=>^0", "0,0,1:a(_,N,_)=>^0", "0,0,1:a(_,_,N)=>^0", "0,0,1:a(<N,_,_)=>^0",
            "0,0,1:a(_,>N,_)=>^0", "0,0,1:a(_,_,#N)=>^0", "0,0,1:a(x,x+N,_)=>^0", "0,0,1:a(x,_,<x-N)=>^0",
            "0,0,1:a(_,_,_)<N=>^0", "0,0,1:a(_,_,_)a(_,_,_)<N/1=>^0", "0,0,1:a(_,_,_)!b(_,N,_)=>^0",
            "0,0,1:a(_,_,_)?b(_,_,_)<N=>^0", "0,0,1:a(_,_,_)*b(_,N,_)c(_,_,_)=>^0", "0,0,1:a(_,_,_)*b(_,_,_)c(_,_,N)=>^0",
            "0,0,1:a(_,_,_)$t:b(@,N,_)=>^0", "0,0,1:a(_,_,_)=>+a(N,0,0)", "0,0,1:a(_,_,_)=>&a(0,N,0)",
            "0,0,1:a(_,_,_)=>+a(0,0,N)", "0,0,1:a(x,_,_)=>+a(x*N,0,0)", "0,0,1:a(x,_,_)=>+a(x-N,0,0)",
            "0,0,1:a(x,_,_)=>+a(x+N,0,0)", "0,0,1:a(_,_,_)=>~1.0=N", "0,0,1:a(_,_,_)=>~1.0=1*N^0",
            "0,0,1:a(_,_,_)=>~1.0=T0(N,0)", "0,0,1:a(_,_,_)=>~1.0=T1(0,N)"};
        String[] goals = {"a(N,0,0):b(_,_,_)", "a(0,N,0):b(_,_,_)", "a(0,0,N):b(_,_,_)", "a(0,0,0):b(N,_,_)",
            "a(0,0,0):b(_,N,_)", "a(0,0,0):b(_,_,_)b(_,_,N)"};
        String[] good = {"0", "1", "-1", "12", "-12", "123", "-123", "999", "-999", "007", "-007", "-0", "-00", "000"};
        String[] bad = {"", "-", "1000", "-1000", "0001", "--1", "1.0", "a", "1a", "/", ":", "1:"};
        for (String digits : good) {
            for (String rule : rules) {
                check.isRule(rule.replace("N", digits));
            }
            for (String goal : goals) {
                check.isGoal(goal.replace("N", digits));
            }
        }
        for (String digits : bad) {
            for (String rule : rules) {
                check.isNoRule(rule.replace("N", digits));
            }
            for (String goal : goals) {
                check.isNoGoal(goal.replace("N", digits));
            }
        }
        String[] values = {"7", "-7", "-07", "007", "70", "-999"};
        for (String digits : values) {
            int value = Integer.parseInt(digits);
            check.due(digits, value, reckoned(new JoinNet(), digits, 0, 0));
            due("a(" + digits + ",_,_)", 1, 0, value, 0, 0, 0, -value, 0, 0);
            due("a(x,x+" + digits + ",_)", 1, 0, 0, value, 0, 0, 0, -value, 0);
            due("a(x,x-" + digits + ",_)", 1, 0, 0, -value, 0, 0, 0, value, 0);
        }
    }

    /** A variable is a letter p to z. */
    private static void letters() {
        String[] rules = {"a(V,_,_)=>^0", "a(x,_,_)b(_,V,_)=>^0", "a(_,_,_)!b(V,_,_)=>^0", "a(_,_,_)$V:b(@,_,_)=>^0",
            "a(_,_,_)*b(_,_,_)c(_,_,V)=>^0", "a(V,_,_)b(<V+1,>V,#V-1)=>+c(V,T0(V,V),V*V)~1.0=V"};
        for (char letter = 1; letter < 256; letter++) {
            boolean isNumber = letter >= '0' && letter <= '9';
            for (String rule : rules) {
                String text = "0,0,1:" + rule.replace('V', letter);
                boolean isBlank = letter == '_' && rule.endsWith("=>^0") && rule.indexOf('$') < 0;
                boolean isFine = VARIABLES.indexOf(letter) >= 0 || isBlank || isNumber && rule.endsWith("=>^0") && rule.indexOf('$') < 0;
                if (isFine) {
                    check.isRule(text);
                } else {
                    check.isNoRule(text);
                }
            }
            String goal = "a(V,0,0):b(V,_,_)".replace('V', letter);
            if (VARIABLES.indexOf(letter) >= 0 || isNumber) {
                check.isGoal(goal);
            } else {
                check.isNoGoal(goal);
            }
        }
        for (char letter : VARIABLES.toCharArray()) {
            int[] facts = {0, 5, 0, 0, 1, 6, 4, 1, 1, 5, 5, 1};
            due("a(V,_,_)b(V+1,<V,_)".replace('V', letter), 1, facts);
            due("a(V,_,_)b(_,V,#V)".replace('V', letter), 1, facts);
            due("a(V,_,_)b(>V,_,_)".replace('V', letter), 1, facts);
            due("a(V,_,_)!b(V,V+1,_)?b(V,V,_)".replace('V', letter), 1, facts);
            // What is met in between does not touch its value.
            JoinNet net = Check.withRules("0,0,100:a(V,_,_)!c(_,_,_)*c(_,_,_)d(_,_,_)?b(_,V,_)=>+h(V,0,0)".replace('V', letter),
                    "-1,0,100:a(V,_,_)*b(_,_,_)b(_,_,_)b(_,V,_)!c(1,_,_)=>+h(V,1,0)".replace('V', letter));
            for (int i = 0; i + 3 < facts.length; i += 4) {
                net.tell(facts[i], facts[i + 1], facts[i + 2], facts[i + 3], 100, NONE);
            }
            net.run(2);
            check.isTrue("the value of " + letter, Check.has(net, 'h', 5, 0, 0) && Check.has(net, 'h', 5, 1, 0));
        }
        // All eleven are apart.
        JoinNet net = Check.withRules("0,0,100:a(p,q,r)b(s,t,u)c(v,w,x)$z:d(@,y,_)=>+e(p,q,r)+e(s,t,u)+e(v,w,x)+e(z,0,0)");
        Check.fact(net, 'a', 1, 2, 3);
        Check.fact(net, 'b', 4, 5, 6);
        Check.fact(net, 'c', 7, 8, 9);
        Check.fact(net, 'd', 11, 10, 0);
        net.fire();
        check.isTrue("p q r", Check.has(net, 'e', 1, 2, 3));
        check.isTrue("s t u", Check.has(net, 'e', 4, 5, 6));
        check.isTrue("v w x", Check.has(net, 'e', 7, 8, 9));
        check.isTrue("z", Check.has(net, 'e', 11, 0, 0));
    }

    private static void noBlanks() {
        String rule = "-1,0,12:a(x,<2,_)<3!b(x+1,_,_)*c(y,_,_)d(y,_,_)$t:e(@,_,_)=>+f(x-1,T0(1,x),t)~1.0=1*x";
        String goal = "a(x,1,2):b(x,_,3)c(_,x,_)";
        check.isRule(rule);
        check.isGoal(goal);
        for (char blank : new char[] {' ', '\t', '\n', '\r', 0, 160, 255}) {
            for (int at = 0; at <= rule.length(); at++) {
                check.isNoRule(rule.substring(0, at) + blank + rule.substring(at));
            }
            for (int at = 0; at <= goal.length(); at++) {
                check.isNoGoal(goal.substring(0, at) + blank + goal.substring(at));
            }
        }
        // Nor is a part of a text one, as long as an end is missing.
        for (int at = 0; at < rule.length() - 2; at++) {
            String part = rule.substring(0, at);
            if (!part.endsWith(")") || part.indexOf('=') < 0) {
                check.isNoRule(part);
            }
        }
        for (int at = 0; at < goal.length(); at++) {
            if (at != goal.indexOf('c')) {
                check.isNoGoal(goal.substring(0, at));
            }
        }
        check.isNoRule(rule + "~1.0=");
        check.isNoRule("0" + rule.substring(2) + (char) 0);
    }

    private static void suffixes() {
        String[] forms = {"", "!", "?", "$t:", "*c(_,_,_)"};
        for (String form : forms) {
            String pattern = form + (form.startsWith("$") ? "b(@,_,_)" : "b(_,_,_)");
            check.isRule("0,0,1:a(_,_,_)" + pattern + "<5=>^0");
            check.isRule("0,0,1:a(_,_,_)" + pattern + "/1=>^0");
            check.isRule("0,0,1:a(_,_,_)" + pattern + "<5/1=>^0");
            check.isNoRule("0,0,1:a(_,_,_)" + pattern + "/1<5=>^0");
            check.isNoRule("0,0,1:a(_,_,_)" + pattern + "<5<5=>^0");
            check.isNoRule("0,0,1:a(_,_,_)" + pattern + "/1/1=>^0");
            check.isNoRule("0,0,1:a(_,_,_)" + pattern + ">5=>^0");
            check.isNoRule("0,0,1:a(_,_,_)" + pattern + "</1=>^0");
            check.isNoRule("0,0,1:a(_,_,_)" + pattern + "<x=>^0");
            check.isNoRule("0,0,1:a(_,_,_)" + pattern + "/=>^0");
            check.isNoRule("0,0,1:a(_,_,_)" + pattern + "/x=>^0");
            check.isNoRule("0,0,1:a(_,_,_)" + pattern + "/11=>^0");
            // The digit is that of a positive condition, from 1 on, an earlier one.
            check.isNoRule("0,0,1:a(_,_,_)" + pattern + "/0=>^0");
            check.isNoRule("0,0,1:a(_,_,_)" + pattern + "/2=>^0");
            check.isNoRule("0,0,1:a(_,_,_)" + pattern + "/9=>^0");
            check.isRule("0,0,1:a(_,_,_)a(_,_,_)" + pattern + "/2=>^0");
            check.isNoRule("0,0,1:a(_,_,_)a(_,_,_)" + pattern + "/3=>^0");
            check.isNoRule("0,0,1:a(_,_,_)!a(_,_,_)" + pattern + "/2=>^0");
            check.isNoRule("0,0,1:a(_,_,_)" + pattern + "/2a(_,_,_)=>^0");
        }
        for (String form : new String[] {"!", "?", "*c(_,_,_)", "$t:"}) {
            String pattern = form + (form.startsWith("$") ? "b(@,_,_)" : "b(_,_,_)");
            check.isRule("0,0,1:a(_,_,_)a(_,_,_)a(_,_,_)" + pattern + "/3=>^0");
            check.isNoRule("0,0,1:a(_,_,_)a(_,_,_)a(_,_,_)" + pattern + "/4=>^0");
        }
        check.isNoRule("0,0,1:a(_,_,_)/1=>^0");
        check.isRule("0,0,1:a(_,_,_)*b(_,_,_)/1c(_,_,_)<2/1=>^0");
        check.isNoRule("0,0,1:a(_,_,_)*b(_,_,_)/2c(_,_,_)=>^0");
    }

    private static void digitsOfActions() {
        for (int positives = 1; positives <= 3; positives++) {
            String conditions = "0,0,1:" + "a(_,_,_)".repeat(positives) + "!b(_,_,_)=>";
            for (char digit = '/'; digit <= ':'; digit++) {
                boolean isThere = digit >= '1' && digit <= '0' + positives;
                for (String action : new String[] {"-D", "~D.0=1", "^0-D^0"}) {
                    if (isThere) {
                        check.isRule(conditions + action.replace('D', digit));
                    } else {
                        check.isNoRule(conditions + action.replace('D', digit));
                    }
                }
            }
        }
        for (char digit = '/'; digit <= ':'; digit++) {
            String[] texts = {"~1.D=1", "^D", "+a(TD(1,1),0,0)"};
            char[] most = {'2', '3', '1'};
            for (int i = 0; i < 3; i++) {
                String text = "0,0,1:a(_,_,_)=>" + texts[i].replace('D', digit);
                if (digit >= '0' && digit <= most[i]) {
                    check.isRule(text);
                } else {
                    check.isNoRule(text);
                }
            }
        }
        for (String action : new String[] {"-", "-11", "-1.0=1", "~1", "~1.0", "~1.=1", "~.0=1", "~1.0=", "~10=1", "~1.00=1", "^", "^00",
            "^-1", "+a(1,1)", "+a(1,1,1", "+a(1,1,1,1)", "+a(1,,1)", "+a(_,1,1)", "+a(<1,1,1)", "+a1,1,1)", "&a", "a(1,1,1)", "=", ">"}) {
            check.isNoRule("0,0,1:a(_,_,_)=>" + action);
        }
        // Each slot, of each positive condition.
        for (int place = 1; place <= 3; place++) {
            for (int slot = 0; slot < 3; slot++) {
                JoinNet net = Check.withRules("0,0,100:a(_,_,_)!h(_,_,_)b(_,_,_)c(_,_,_)=>~" + place + "." + slot + "=9");
                for (char kind = 'a'; kind <= 'c'; kind++) {
                    Check.fact(net, kind, 1, 2, 3);
                }
                net.fire();
                check.due("one came", 3, net.facts());
                check.due("its kind", place - 1, net.fact(3, 0));
                for (int i = 0; i < 3; i++) {
                    check.due("another value in a slot", i == slot ? 9 : i + 1, net.fact(3, 1 + i));
                }
            }
            JoinNet net = Check.withRules("0,0,100:a(_,_,_)!h(_,_,_)b(_,_,_)c(_,_,_)=>-" + place);
            for (char kind = 'a'; kind <= 'c'; kind++) {
                Check.fact(net, kind, 1, 2, 3);
            }
            net.fire();
            check.isTrue("that one went", net.facts() == 2 && !Check.has(net, (char) ('a' + place - 1), 1, 2, 3));
        }
    }

    private static void oneSummedSlot() {
        check.isRule("0,0,1:a(_,_,_)$t:b(@,_,_)=>^0");
        check.isRule("0,0,1:a(_,_,_)$t:b(_,@,_)=>^0");
        check.isRule("0,0,1:a(_,_,_)$t:b(_,_,@)=>^0");
        for (String bad : new String[] {"$t:b(_,_,_)", "$t:b(@,@,_)", "$t:b(@,@,@)", "$t:b(@+1,_,_)", "$t:b(>@,_,_)", "$:b(@,_,_)",
            "$tb(@,_,_)", "t:b(@,_,_)", "$1:b(@,_,_)", "$tu:b(@,_,_)", "$t:!b(@,_,_)", "$t:b(@,_,_)@", "b(@,_,_)", "!b(_,@,_)",
            "?b(_,_,@)", "*b(@,_,_)c(_,_,_)", "*b(_,_,_)c(@,_,_)"}) {
            check.isNoRule("0,0,1:a(_,_,_)" + bad + "=>^0");
        }
        int[] sums = {6, 60, 600};
        for (int slot = 0; slot < 3; slot++) {
            String[] slots = {"_", "_", "_"};
            slots[slot] = "@";
            JoinNet net = Check.withRules("0,0,100:a(_,_,_)$t:b(" + String.join(",", slots) + ")=>+c(t,0,0)");
            for (int i = 1; i <= 3; i++) {
                Check.fact(net, 'b', i, 10 * i, 100 * i);
            }
            Check.fact(net, 'a', 0, 0, 0);
            net.fire();
            check.isTrue("the slot @", Check.has(net, 'c', sums[slot], 0, 0));
        }
    }

    // ---- what fits, and what is met

    private static void tests() {
        int[] values = {0, 4, 0, 0, 0, 5, 0, 0, 0, 6, 0, 0};
        due("a(5,_,_)", 1, values);
        due("a(<5,_,_)", 1, values);
        due("a(<6,_,_)", 2, values);
        due("a(<4,_,_)", 0, values);
        due("a(>5,_,_)", 1, values);
        due("a(>4,_,_)", 2, values);
        due("a(>6,_,_)", 0, values);
        due("a(#5,_,_)", 2, values);
        due("a(#7,_,_)", 3, values);
        due("a(_,_,_)", 3, values);
        due("a(_,<0,_)", 0, values);
        due("a(_,<1,_)", 3, values);
        due("a(_,_,>0)", 0, values);
        due("a(_,_,>-1)", 3, values);
        due("b(_,_,_)", 0, values);
        // Terms with a variable: of all nine pairs.
        due("a(x,_,_)a(x,_,_)", 3, values);
        due("a(x,_,_)a(<x,_,_)", 3, values);
        due("a(x,_,_)a(>x,_,_)", 3, values);
        due("a(x,_,_)a(#x,_,_)", 6, values);
        due("a(x,_,_)a(x+1,_,_)", 2, values);
        due("a(x,_,_)a(x-1,_,_)", 2, values);
        due("a(x,_,_)a(x+2,_,_)", 1, values);
        due("a(x,_,_)a(x+3,_,_)", 0, values);
        due("a(x,_,_)a(<x+1,_,_)", 6, values);
        due("a(x,_,_)a(>x-1,_,_)", 6, values);
        due("a(x,_,_)a(<x-1,_,_)", 1, values);
        due("a(x,_,_)a(#x+1,_,_)", 7, values);
        // In the same pattern, from earlier slots on.
        due("a(x,x,_)", 1, 0, 3, 3, 0, 0, 3, 4, 0);
        due("a(x,#x,_)", 1, 0, 3, 3, 0, 0, 3, 4, 0);
        due("a(x,x+1,x-1)", 1, 0, 3, 4, 2, 0, 3, 4, 3);
        due("a(x,y,x+1)", 1, 0, 3, 9, 4, 0, 3, 4, 5);
        due("a(_,x,<x)", 1, 0, 0, 3, 2, 0, 0, 3, 3);
        // A term is not brought to a bound.
        due("a(x,_,_)b(x+1,_,_)", 0, 0, 999, 0, 0, 1, 999, 0, 0);
        due("a(x,_,_)b(<x+1,_,_)", 1, 0, 999, 0, 0, 1, 999, 0, 0);
        due("a(x,_,_)b(>x-1,_,_)", 1, 0, -999, 0, 0, 1, -999, 0, 0);
    }

    private static void younger() {
        for (int below : new int[] {1, 2, 3, 99}) {
            JoinNet net = Check.withRules("0,0,1:a(_,_,_)<" + below + "=>^0", "0,0,1:h(_,_,_)!a(_,_,_)<" + below + "=>^0");
            net.pass(5);
            Check.fact(net, 'a', 0, 0, 0);
            Check.fact(net, 'h', 0, 0, 0);
            for (int age = 0; age <= below + 1; age++) {
                check.due("age " + age + " is below " + below, age < below ? 1 : 0, net.met(0));
                check.due("no a younger than " + below, age < below ? 1 : 2, net.met(1));
                net.pass(1);
            }
        }
        JoinNet never = Check.withRules("0,0,1:a(_,_,_)<0=>^0", "0,0,1:a(_,_,_)<-1=>^0", "0,0,1:a(_,_,_)<-999=>^0");
        JoinNet always = Check.withRules("0,0,1:a(_,_,_)<999=>^0");
        Check.fact(never, 'a', 0, 0, 0);
        check.due("never below 0", 0, never.matches());
        Check.fact(always, 'a', 0, 0, 0);
        for (int i = 0; i < 9; i++) {
            always.pass(100);
        }
        always.pass(98);
        check.due("998", 1, always.matches());
        always.pass(1);
        check.due("999", 0, always.matches());
    }

    private static void later() {
        JoinNet net = Check.withRules("0,0,1:a(_,_,_)b(_,_,_)/1=>^0", "0,0,1:a(_,_,_)b(_,_,_)c(_,_,_)/1=>^0",
                "0,0,1:a(_,_,_)b(_,_,_)c(_,_,_)/2=>^0", "0,0,1:a(_,_,_)?b(_,_,_)/1=>^0", "0,0,1:a(_,_,_)*b(_,_,_)b(_,_,_)/1=>^0",
                "0,0,1:a(_,_,_)$t:b(@,_,_)/1c(t,_,_)=>^0", "0,0,1:a(_,_,_)b(_,_,_)!c(_,_,_)/2=>^0");
        Check.fact(net, 'b', 5, 0, 0);
        net.pass(1);
        Check.fact(net, 'a', 0, 0, 0);
        Check.fact(net, 'b', 6, 0, 0);
        Check.fact(net, 'c', 0, 0, 0);
        // Times: b 0, a 1, b 1, c 1.
        int[] first = {1, 2, 3, 1, 1, 3, 3};
        for (int rule = 0; rule < 7; rule++) {
            check.due("greater, and not the same " + rule, first[rule], net.met(rule));
        }
        check.due("c later than b 5; t is 0; no c later than b 6", 3, net.matches());
        net.pass(1);
        Check.fact(net, 'b', 7, 0, 0);
        Check.fact(net, 'c', 7, 0, 0);
        int[] then = {2, 3, 3, 2, 2, 3, 3};
        for (int rule = 0; rule < 7; rule++) {
            check.due("one tick later " + rule, then[rule], net.met(rule));
        }
        // a b7; a b c7 three times; b5 c0, b5 c7, b6 c7; ?; *; t is 7; no c later than b7.
        check.due("one tick later", 1 + 3 + 3 + 1 + 1 + 1 + 1, net.matches());
    }

    /** Where a variable gets its value, and where it needs to have one. */
    private static void whereVariablesGetValues() {
        String[] good = {"a(x,x,x)", "a(x,_,_)b(x,<x,>x+1)", "a(_,_,x)b(x,_,_)", "a(_,_,_)!b(x,x,#x)", "a(_,_,_)?b(x,_,x-1)",
            "a(_,_,_)*b(x,_,_)c(x,<x,_)", "a(_,_,_)*b(_,_,_)c(x,x,_)", "a(_,_,_)*b(x,_,_)c(y,>y,x)", "a(_,_,_)$t:b(x,@,x)",
            "a(_,_,_)$t:b(t,@,t)", "a(_,_,_)$t:b(@,_,_)c(t,_,_)", "a(_,_,_)$t:b(@,_,_)!c(<t,_,_)", "a(_,_,_)!b(x,_,_)c(x,_,_)",
            "a(_,_,_)!b(x,_,_)?c(x,_,_)", "a(_,_,_)!b(t,_,_)$t:c(@,_,_)", "a(_,_,_)*b(t,_,_)c(t,_,_)$t:c(@,t,_)",
            "a(_,_,_)$t:b(@,x,_)$x:b(_,@,_)", "a(x,_,_)!b(x,_,_)?b(x+1,_,_)"};
        String[] bad = {"a(<x,_,_)", "a(>x,x,_)", "a(#x,_,_)", "a(x+0,_,_)", "a(x-0,_,_)", "a(<x,x,_)", "a(x+1,x,_)",
            "a(_,_,_)b(x+1,x,_)", "a(_,_,_)!b(<x,x,_)", "a(_,_,_)?b(#x,_,_)", "a(_,_,_)*b(>x,_,_)c(_,_,_)",
            "a(_,_,_)*b(_,_,_)c(>x,_,_)", "a(_,_,_)*b(<x,_,_)c(x,_,_)", "a(_,_,_)$t:b(@,<x,_)", "a(_,_,_)$t:b(@,<t,_)",
            "a(_,_,_)$t:b(@,t+1,_)", "a(x,_,_)$x:b(@,_,_)", "a(_,_,_)$x:b(@,_,_)$x:b(@,_,_)", "a(_,_,_)!b(x,_,_)c(<x,_,_)",
            "a(_,_,_)?b(x,_,_)!c(#x,_,_)", "a(_,_,_)*b(x,_,_)c(_,_,_)!c(>x,_,_)", "a(_,_,_)*b(_,_,_)c(x,_,_)!c(>x,_,_)",
            "a(_,_,_)$t:b(x,@,_)!c(x+1,_,_)", "a(_,_,_)b(x,_,_)$x:c(@,_,_)"};
        for (String conditions : good) {
            check.isRule("0,0,1:" + conditions + "=>^0");
        }
        for (String conditions : bad) {
            check.isNoRule("0,0,1:" + conditions + "=>^0");
        }
        for (String action : new String[] {"+c(x,0,0)", "&c(0,x,0)", "+c(0,0,1+x)", "~1.0=x", "~1.0=T0(x,1)", "~1.0=T1(1,x)"}) {
            for (String conditions : new String[] {"a(x,_,_)", "a(_,_,_)b(_,_,x)", "a(_,_,_)$x:b(@,_,_)", "a(_,_,_)!b(x,_,_)c(x,_,_)"}) {
                check.isRule("0,0,1:" + conditions + "=>" + action);
            }
            for (String conditions : new String[] {"a(y,_,_)", "a(_,_,_)!b(x,_,_)", "a(_,_,_)?b(x,_,_)", "a(_,_,_)*b(x,_,_)c(x,_,_)",
                "a(_,_,_)*b(_,_,_)c(x,_,_)", "a(_,_,_)$y:b(@,x,_)"}) {
                check.isNoRule("0,0,1:" + conditions + "=>" + action);
            }
        }
        // What a ! ? * or $ gave a value is gone behind it: here y is another one each time.
        int[] facts = {0, 1, 0, 0, 1, 5, 0, 0, 2, 6, 0, 0};
        due("a(_,_,_)?b(y,_,_)?c(y,_,_)", 1, facts);
        due("a(_,_,_)?b(y,_,_)c(y,_,_)", 1, facts);
        due("a(_,_,_)*b(y,_,_)b(y,_,_)c(y,_,_)", 1, facts);
        due("a(_,_,_)$t:b(@,y,_)c(y,_,_)", 1, facts);
        due("a(y,_,_)?b(y,_,_)", 0, facts);
        // In a $ its own variable is one of that condition alone; behind it, it is the sum.
        due("a(_,_,_)$t:b(t,@,t)c(t,_,_)", 1, 0, 0, 0, 0, 1, 3, 4, 3, 1, 3, 9, 4, 2, 4, 0, 0);
    }

    private static void conditionsByFacts() {
        int[][] bs = {{}, {1, 1, 0, 0}, {1, 1, 0, 0, 1, 2, 0, 0}};
        int[] none = {1, 0, 0};
        int[] some = {0, 1, 1};
        for (int many = 0; many < 3; many++) {
            int[] facts = Arrays.copyOf(new int[] {0, 7, 0, 0}, 4 + bs[many].length);
            System.arraycopy(bs[many], 0, facts, 4, bs[many].length);
            due("a(_,_,_)!b(_,_,_)", none[many], facts);
            due("a(_,_,_)?b(_,_,_)", some[many], facts);
            due("a(_,_,_)b(_,_,_)", many, facts);
            due("a(_,_,_)*b(_,_,_)c(_,_,_)", none[many], facts);
            due("a(_,_,_)*b(x,_,_)b(x,_,_)", 1, facts);
            due("a(_,_,_)*b(x,_,_)b(x+1,_,_)", none[many], facts);
            due("a(_,_,_)$t:b(@,_,_)", 1, facts);
        }
        int[] pairs = {0, 0, 0, 0, 1, 1, 0, 0, 1, 2, 0, 0, 2, 1, 5, 0};
        due("a(_,_,_)*b(x,_,_)c(x,_,_)", 0, pairs);
        due("a(_,_,_)*b(x,_,_)c(_,_,_)", 1, pairs);
        due("a(_,_,_)*b(<2,_,_)c(1,_,_)", 1, pairs);
        due("a(_,_,_)*c(x,_,_)b(x,_,_)", 1, pairs);
        due("a(_,_,_)*b(x,_,_)c(y,>x,_)", 1, pairs);
        due("a(_,_,_)*b(x,_,_)c(y,#y,x)", 0, pairs);
        // The same fact may be in several conditions.
        due("a(_,_,_)a(_,_,_)a(_,_,_)", 8, 0, 1, 0, 0, 0, 2, 0, 0);
        due("a(_,_,_)?a(_,_,_)!a(>2,_,_)", 2, 0, 1, 0, 0, 0, 2, 0, 0);
        // From the left: what is met early counts, also if a later condition is not met.
        JoinNet net = Check.withRules("0,0,1:a(x,_,_)!b(x,_,_)?c(x,_,_)*d(x,_,_)e(x,_,_)=>^0");
        int[] met = {0, 1, 2, 3, 4};
        check.due("met", met[0], net.met(0));
        Check.fact(net, 'a', 1, 0, 0);
        Check.fact(net, 'b', 1, 0, 0);
        check.due("met", met[1], net.met(0));
        net.drop(1);
        check.due("met", met[2], net.met(0));
        Check.fact(net, 'c', 1, 0, 0);
        Check.fact(net, 'd', 1, 0, 0);
        check.due("met", met[3], net.met(0));
        Check.fact(net, 'e', 1, 0, 0);
        check.due("met: all, as it has a match", met[4], net.met(0));
    }

    private static void nearestSums() {
        int[][] cases = {{0, 0, 0}, {500, 498, 998}, {500, 499, 999}, {500, 500, 999}, {999, 998, 999}, {-500, -498, -998},
            {-500, -499, -999}, {-500, -500, -999}, {-999, -998, -999}, {999, -999, 0}, {-3, 2, -1}};
        for (int[] one : cases) {
            JoinNet net = Check.withRules("0,0,100:a(_,_,_)$t:b(@,_,_)=>+c(t,0,0)");
            Check.fact(net, 'b', one[0], 0, 0);
            Check.fact(net, 'b', one[1], 1, 0);
            Check.fact(net, 'a', 0, 0, 0);
            net.fire();
            check.isTrue("sum of " + one[0] + " and " + one[1], Check.has(net, 'c', one[2], 0, 0));
        }
        // The sum of all is brought to the nearest value, not each step: 999 + 999 - 999 - 5.
        JoinNet net = Check.withRules("0,0,100:a(_,_,_)$t:b(@,_,_)=>+c(t,0,0)");
        int[] values = {999, 999, -999, -5};
        for (int i = 0; i < 4; i++) {
            Check.fact(net, 'b', values[i], i, 0);
        }
        Check.fact(net, 'a', 0, 0, 0);
        net.fire();
        check.isTrue("sum of four", Check.has(net, 'c', 994, 0, 0));
        due("a(_,_,_)$t:b(@,_,_)c(t,_,_)", 1, 0, 0, 0, 0, 1, 999, 0, 0, 1, 999, 1, 0, 2, 999, 0, 0);
    }

    private static void expressionsStepByStep() {
        isReckoned("x+y", 999, 500, 499);
        isReckoned("x+y", 999, 500, 500);
        isReckoned("x+y", 998, 500, 498);
        isReckoned("x+y", -999, -500, -499);
        isReckoned("x+y", -999, -500, -500);
        isReckoned("x-y", 999, 500, -499);
        isReckoned("x-y", 999, 500, -500);
        isReckoned("x-y", -999, -500, 500);
        isReckoned("x*y", 999, 27, 37);
        isReckoned("x*y", 999, 40, 25);
        isReckoned("x*y", 998, 2, 499);
        isReckoned("x*y", -999, 27, -37);
        isReckoned("x*y", -999, 40, -25);
        isReckoned("x*y", 999, -999, -999);
        isReckoned("x*y", -999, 999, -999);
        isReckoned("x*y", 0, 999, 0);
        isReckoned("x+y-y", 998, 999, 1);
        isReckoned("x*y-x", 0, 999, 999);
        isReckoned("x-y-y+y", -998, -999, 1);
        isReckoned("x+y*2", 14, 3, 4);
        isReckoned("2*x+y", 10, 3, 4);
        isReckoned("x-y-1", -2, 3, 4);
        isReckoned("x-y*y", -4, 3, 4);
        isReckoned("x*y*x", 36, 3, 4);
        isReckoned("x--1", 4, 3, 4);
        isReckoned("x+-1", 2, 3, 4);
        isReckoned("x*-1", -3, 3, 4);
        isReckoned("-1*x", -3, 3, 4);
        isReckoned("T0(1,1)", 0, 0, 0);
        isReckoned("x+T1(x,y)", 3, 3, 4);
        JoinNet net = new JoinNet();
        net.row(1, 3, 3, 4, 4, 50, 0);
        check.due("T is what the table tells", 53, reckoned(net, "x+T1(x,y)", 3, 4));
        JoinNet turned = new JoinNet();
        turned.row(1, 4, 4, 3, 3, 50, 0);
        check.due("for the two values in their order", 3, reckoned(turned, "x+T1(x,y)", 3, 4));
        JoinNet two = new JoinNet();
        two.row(0, 3, 3, 4, 4, 50, 0);
        two.row(0, 3, 3, 4, 4, 50, 0);
        check.due("0 if it tells NONE", 3, reckoned(two, "x+T0(x,y)", 3, 4));
        JoinNet inner = new JoinNet();
        inner.row(0, 3, 3, 4, 4, 9, 0);
        inner.row(0, 9, 9, 7, 7, -99, 0);
        check.due("T of T, and a factor as one whole", -95, reckoned(inner, "y+T0(T0(x,y),x+y)", 3, 4));
        check.due("T of T, without precedence", 95, reckoned(inner2(), "y-T0(T0(x,y),x+y)*-1", 3, 4));
        JoinNet sums = new JoinNet();
        sums.policy(0, JoinNet.SUM);
        for (int i = 0; i < 8; i++) {
            sums.row(0, 0, 9, 0, 9, 99, 0);
        }
        check.due("what a table tells, then to the nearest value", 999, reckoned(sums, "T0(1,1)+T0(2,2)", 0, 0));
    }

    private static JoinNet inner2() {
        JoinNet net = new JoinNet();
        net.row(0, 3, 3, 4, 4, 9, 0);
        net.row(0, 9, 9, 7, 7, 99, 0);
        return net;
    }

    private static void endsOfExpressions() {
        check.isRule("0,0,1:a(x,_,_)=>~1.0=x+a(1,1,1)");
        check.isRule("0,0,1:a(x,_,_)=>~1.0=x&a(1,1,1)");
        check.isRule("0,0,1:a(x,_,_)=>~1.0=x~1.0=x");
        check.isRule("0,0,1:a(x,_,_)=>~1.0=x^1");
        check.isRule("0,0,1:a(x,_,_)=>~1.0=x-1-1-1-1-1-1");
        check.isNoRule("0,0,1:a(x,_,_)=>~1.0=x-");
        check.isNoRule("0,0,1:a(x,_,_)=>~1.0=x+");
        check.isNoRule("0,0,1:a(x,_,_)=>~1.0=x*a(1,1,1)");
        check.isNoRule("0,0,1:a(x,_,_)=>~1.0=x-a(1,1,1)");
        check.isNoRule("0,0,1:a(x,_,_)=>~1.0=x++a(1,1,1)");
        check.isNoRule("0,0,1:a(x,_,_)=>~1.0=x1");
        check.isNoRule("0,0,1:a(x,_,_)=>~1.0=xx");
        check.isNoRule("0,0,1:a(x,_,_)=>~1.0=+x");
        check.isNoRule("0,0,1:a(x,_,_)=>~1.0=-x");
        check.isNoRule("0,0,1:a(x,_,_)=>~1.0=(x)");
        check.isNoRule("0,0,1:a(x,_,_)=>~1.0=x+y");
        String[] ends = {"x+1+b(1,1,1)", "x+T0(1,1)+1+b(1,1,1)", "x--1&b(1,1,1)", "2*x-2+b(1,1,1)"};
        for (String end : ends) {
            JoinNet net = Check.withRules("0,0,100:a(x,_,_)c(_,_,_)=>~1.0=" + end);
            Check.fact(net, 'a', 3, 0, 0);
            Check.fact(net, 'c', 3, 0, 0);
            net.fire();
            check.isTrue("~1.0=" + end, Check.has(net, 'a', 4, 0, 0));
            check.due("~1.0=" + end, end.indexOf('&') < 0 ? 1 : 0, Check.has(net, 'b', 1, 1, 1) ? 1 : 0);
            check.isTrue("no - of its own", Check.has(net, 'c', 3, 0, 0));
        }
    }

    private static void matchesHoldAsLong() {
        JoinNet net = Check.withRules("0,0,100:a(x,_,_)<4!b(x,_,_)?c(x,_,_)=>&h(x,0,0)");
        check.due("no facts", 0, net.matches());
        net.tell(2, 1, 0, 0, 100, 3);
        check.due("not the first condition", 0, net.matches());
        Check.fact(net, 'a', 1, 0, 0);
        check.due("all are met", 1, net.matches());
        net.fire();
        check.isTrue("as long as that is so", Check.has(net, 'h', 1, 0, 0));
        int b = Check.fact(net, 'b', 1, 0, 0);
        check.isTrue("a b: not any more", net.matches() == 0 && !Check.has(net, 'h', 1, 0, 0));
        net.drop(b);
        check.isTrue("again, but not by itself", net.matches() == 1 && !Check.has(net, 'h', 1, 0, 0));
        net.fire();
        net.pass(2);
        check.isTrue("age 2", Check.has(net, 'h', 1, 0, 0));
        net.pass(1);
        check.isTrue("no c any more", net.matches() == 0 && !Check.has(net, 'h', 1, 0, 0));
        Check.fact(net, 'c', 1, 0, 0);
        net.fire();
        check.isTrue("age 3", Check.has(net, 'h', 1, 0, 0));
        net.pass(1);
        check.isTrue("age 4", net.matches() == 0 && !Check.has(net, 'h', 1, 0, 0));
    }

    /** How many unlike tests of single facts two rules have together, the second one with these conditions. */
    private static int testsOf(String conditions, String more) {
        return Check.withRules("0,0,1:" + conditions + "=>^0", "0,0,1:" + more + "=>^0").shared(false);
    }

    private static void unlikeTests() {
        check.due("no rules", 0, new JoinNet().shared(false));
        String[] likeBlanks = {"a(x,_,_)", "a(_,p,p)", "a(x,x+1,<x)", "a(p,#p,>p-1)", "a(_,_,_)<3", "a(z,_,_)<-999"};
        for (String conditions : likeBlanks) {
            check.due("the others counting as _: " + conditions, 1, testsOf("a(_,_,_)", conditions));
        }
        String[] like = {"a(1,_,_)", "a(01,_,_)", "a(001,x,x)", "a(1,x,#x)<5"};
        for (String one : like) {
            for (String other : like) {
                check.due("by their values: " + one + " " + other, 1, testsOf(one, other));
            }
        }
        String[] unlike = {"a(_,_,_)", "b(_,_,_)", "a(1,_,_)", "a(_,1,_)", "a(_,_,1)", "a(-1,_,_)", "a(2,_,_)", "a(<1,_,_)", "a(>1,_,_)",
            "a(#1,_,_)", "a(1,1,_)", "a(1,_,1)", "a(_,1,1)", "a(1,1,1)", "a(1,1,2)", "a(1,1,<1)", "b(1,_,_)", "a(0,_,_)", "a(_,0,_)"};
        for (String one : unlike) {
            for (String other : unlike) {
                check.due("unlike: " + one + " " + other, one.equals(other) ? 1 : 2, testsOf(one, other));
            }
        }
        check.due("0 and -0", 1, testsOf("a(0,_,_)", "a(-0,_,_)"));
        check.due("a negative value", 1, testsOf("a(-7,_,_)", "a(-007,_,_)"));
        String[] forms = {"a(_,_,_)!a(1,_,_)", "a(_,_,_)?a(1,_,_)", "a(_,_,_)a(1,_,_)", "a(_,_,_)*a(1,_,_)a(_,_,_)",
            "a(_,_,_)*a(_,_,_)a(1,_,_)", "a(_,_,_)$t:a(1,@,_)", "a(_,_,_)a(1,_,_)<3/1"};
        for (String one : forms) {
            for (String other : forms) {
                check.due("of all patterns: " + one + " " + other, 2, testsOf(one, other));
            }
        }
        check.due("@ counts as _", 1, testsOf("a(_,_,_)", "a(_,_,_)$t:a(@,_,_)$u:a(_,_,@)"));
        // Of all ten rules, and of all conditions.
        JoinNet net = new JoinNet();
        for (int i = 0; i < 10; i++) {
            Check.rule(net, "0,0,1:a(N,0,_)*a(N,1,_)a(N,2,_)*a(N,3,_)a(N,4,_)*a(N,5,_)a(N,6,_)=>^0".replace('N', (char) ('0' + i)));
            check.due("tests", 7 * (i + 1), net.shared(false));
            check.due("beginnings", 4 * (i + 1), net.shared(true));
        }
        for (int i = 0; i < 10; i++) {
            net.dropRule(i);
            check.due("tests of those that are there", 7 * (9 - i), net.shared(false));
            check.due("beginnings of those that are there", 4 * (9 - i), net.shared(true));
        }
    }

    private static void unlikeBeginnings() {
        String[] texts = {"a(_,_,_)", "a(_,_,_)<3", "a(_,_,_)<31", "a(_,_,_)<3a(_,_,_)", "a(_,_,_)a(_,_,_)/1", "a(_,_,_)a(_,_,_)",
            "a(1,_,_)", "a(01,_,_)", "a(x,_,_)", "a(y,_,_)", "a(_,_,_)!a(_,_,_)", "a(_,_,_)?a(_,_,_)", "a(_,_,_)*a(_,_,_)a(_,_,_)",
            "a(_,_,_)*a(_,_,_)a(_,_,_)<3", "a(_,_,_)$t:a(@,_,_)", "a(_,_,_)$u:a(@,_,_)", "b(_,_,_)", "a(_,_,1)", "b(_,_,_)!a(_,_,_)"};
        String[][] beginnings = {{"1"}, {"2"}, {"3"}, {"2", "4"}, {"1", "5"}, {"1", "6"}, {"7"}, {"8"}, {"9"}, {"10"}, {"1", "11"}, {"1", "12"},
            {"1", "13"}, {"1", "14"}, {"1", "15"}, {"1", "16"}, {"17"}, {"18"},
            {"17", "19"}};
        for (int i = 0; i < texts.length; i++) {
            for (int j = 0; j < texts.length; j++) {
                Set<String> due = new HashSet<>(List.of(beginnings[i]));
                due.addAll(List.of(beginnings[j]));
                JoinNet net = Check.withRules("0,0,1:" + texts[i] + "=>^0", "9,3,1:" + texts[j] + "=>+b(1,2,3)");
                check.due("beginnings of " + texts[i] + " and " + texts[j], due.size(), net.shared(true));
                net.dropRule(0);
                check.due("beginnings of " + texts[j], beginnings[j].length, net.shared(true));
                Check.rule(net, "0,0,1:" + texts[i] + "=>^0");
                check.due("beginnings of " + texts[j] + " and " + texts[i], due.size(), net.shared(true));
            }
        }
        JoinNet net = Check.withRules("0,0,1:a(_,_,_)a(_,_,_)!a(_,_,_)?a(_,_,_)=>^0");
        check.due("of one, of two, and so on", 4, net.shared(true));
        check.due("one test", 1, net.shared(false));
    }
}
