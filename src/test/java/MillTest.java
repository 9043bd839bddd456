import java.util.Arrays;

/** The sentences of Terms, of firing, taking back, loops, goals and tables: each bound from both sides. */
public final class MillTest {
    private static final int NONE = JoinNet.NONE;
    private static final Check check = new Check("MillTest");

    public static void main(String[] args) {
        open();
        whatComesFirst();
        newnessOneByOne();
        countsOfSlots();
        focusRow();
        focusWhileFiring();
        takenAsTheyAre();
        gradesOfFirings();
        goneFacts();
        beliefsHold();
        settledInOrder();
        latestSix();
        allIsAsItWas();
        eachPartIsBack();
        whatStays();
        forgotten();
        states();
        lengthsOfLoops();
        wouldBe();
        goals();
        policies();
        rowsAndHoles();
        check.end();
    }

    /** Fires until there is no match, and returns the rules as the digits of a number. */
    private static long order(JoinNet net) {
        long order = 0;
        for (int rule = net.fire(); rule != NONE; rule = net.fire()) {
            order = 10 * order + rule + 1;
        }
        return order;
    }

    /** Which of these rules is fired first, on a(1,1,1) with number 0, b(1,1,1) with 1 and c(1,1,1) with 2. */
    private static int first(String... rules) {
        JoinNet net = Check.withRules(rules);
        for (char kind = 'a'; kind <= 'c'; kind++) {
            Check.fact(net, kind, 1, 1, 1);
        }
        int next = net.next(0);
        check.due("what would be fired next is fired", next, net.fire());
        return next;
    }

    // ---- the agenda

    private static void open() {
        JoinNet net = Check.withRules("0,0,100:a(x,_,_)<3!b(x,_,_)=>+c(x,0,0)");
        Check.fact(net, 'a', 1, 0, 0);
        check.due("open as it has come", 1, net.agenda());
        net.fire();
        check.due("fired", 0, net.agenda());
        check.due("fired, it still holds", 1, net.matches());
        Check.fact(net, 'h', 0, 0, 0);
        net.pass(1);
        Check.fact(net, 'a', 1, 0, 0);
        check.due("what does not end it does not open it", 0, net.agenda());
        int b = Check.fact(net, 'b', 1, 0, 0);
        net.drop(b);
        check.due("it came to hold anew", 1, net.agenda());
        net.fire();
        net.pass(2);
        check.due("too old", 0, net.matches());
        Check.fact(net, 'a', 2, 0, 0);
        check.due("another one", 1, net.agenda());
        JoinNet time = Check.withRules("0,0,100:a(_,_,_)!b(_,_,_)<2=>^0");
        Check.fact(time, 'a', 0, 0, 0);
        time.fire();
        Check.fact(time, 'b', 0, 0, 0);
        time.pass(1);
        check.due("a young b", 0, time.matches());
        time.pass(1);
        check.due("open again by a tick", 1, time.agenda());
        JoinNet each = Check.withRules("0,0,100:a(_,_,_)a(_,_,_)=>^0", "0,0,100:a(_,_,_)a(_,_,_)=>^0");
        Check.fact(each, 'a', 0, 0, 0);
        Check.fact(each, 'a', 1, 0, 0);
        for (int left = 7; left >= 0; left--) {
            each.fire();
            check.due("each rule with each facts once", left, each.agenda());
        }
        check.due("none", NONE, each.fire());
    }

    private static void whatComesFirst() {
        check.due("by rank, against all others", 1, first("0,0,9:c(1,1,1)b(1,1,1)a(1,1,1)=>^0", "1,0,9:a(_,_,_)=>^0"));
        check.due("negative ranks", 0, first("-98,0,9:a(_,_,_)=>^0", "-99,0,9:c(_,_,_)=>^0"));
        check.due("by newness, against what is special", 1, first("0,0,9:a(1,1,1)<9=>^0", "0,0,9:b(_,_,_)=>^0"));
        check.due("by newness, against more facts", 1, first("0,0,9:b(1,1,1)a(1,1,1)b(1,1,1)=>^0", "0,0,9:c(_,_,_)=>^0"));
        check.due("more facts before fewer", 1, first("0,0,9:c(1,1,1)=>^0", "0,0,9:c(_,_,_)a(_,_,_)=>^0"));
        check.due("more facts before fewer", 1, first("0,0,9:a(1,1,1)c(1,1,1)=>^0", "0,0,9:c(_,_,_)a(_,_,_)a(_,_,_)=>^0"));
        check.due("the second greatest", 1, first("0,0,9:c(1,1,1)a(1,1,1)a(1,1,1)=>^0", "0,0,9:b(_,_,_)c(_,_,_)=>^0"));
        check.due("the third greatest", 1, first("0,0,9:c(1,1,1)b(1,1,1)a(1,1,1)=>^0", "0,0,9:c(_,_,_)b(_,_,_)b(_,_,_)=>^0"));
        check.due("by what is special, against rules", 1, first("0,0,9:c(_,1,_)=>^0", "0,0,9:c(1,_,1)=>^0"));
        check.due("by rules", 0, first("0,0,9:c(_,1,_)=>^0", "0,0,9:c(1,_,_)=>^0"));
        check.due("by rules, against facts", 0, first("0,0,9:c(_,_,_)a(_,_,_)=>^0", "0,0,9:a(_,_,_)c(_,_,_)=>^0"));
        JoinNet net = Check.withRules("0,0,9:a(_,_,_)a(_,_,_)=>^0");
        Check.fact(net, 'a', 0, 0, 0);
        Check.fact(net, 'a', 1, 0, 0);
        int[][] due = {{1, 1}, {0, 1}, {1, 0}, {0, 0}};
        for (int[] pair : due) {
            check.due("by facts, those of the first condition first", pair[0], net.next(1));
            check.due("by facts, lesser numbers first", pair[1], net.next(2));
            net.fire();
        }
        // The last of 20 facts, by the last of ten rules.
        JoinNet last = new JoinNet();
        for (int i = 0; i < 10; i++) {
            Check.rule(last, i + ",0,9:a(_,_,_)a(_,_,_)a(_,_,_)=>^0");
        }
        for (int i = 0; i < 20; i++) {
            Check.fact(last, 'a', i, 0, 0);
        }
        check.due("all of them", 80000, last.matches());
        check.due("the last rule", 9, last.fire());
        check.due("fired", 79999, last.agenda());
        check.due("the next facts", 18 + 19 + 19, last.next(1) + last.next(2) + last.next(3));
        last.takeBack(1);
        check.due("open", 80000, last.agenda());
        check.due("the last facts", 57, last.next(1) + last.next(2) + last.next(3));
        // Numbers are compared as numbers: 9 and 10, 19 and 20.
        JoinNet many = Check.withRules("0,0,9:a(_,_,_)=>^0");
        for (int i = 0; i < 25; i++) {
            if (i > 15) {
                many.drop(i - 16);
            }
            Check.fact(many, 'a', i, 0, 0);
        }
        for (int i = 24; i >= 9; i--) {
            check.due("newer ones first", i, many.next(1));
            many.fire();
        }
        check.due("all of them", NONE, many.next(0));
    }

    private static void newnessOneByOne() {
        // Facts a to d have the numbers 0 to 3; rules on them, from the one that is first to the last one.
        String[] sorted = {"ddd", "dcd", "ddc", "dda", "dd", "dcc", "dcb", "cd", "dbb", "bad", "ad", "d", "ccb", "c", "bb", "aab", "b",
            "aaa", "aa", "a"};
        for (int i = 0; i + 1 < sorted.length; i++) {
            if (isSameSet(sorted[i], sorted[i + 1])) {
                continue;
            }
            JoinNet net = Check.withRules(onKinds(sorted[i + 1]), onKinds(sorted[i]));
            for (char kind = 'a'; kind <= 'd'; kind++) {
                Check.fact(net, kind, 0, 0, 0);
            }
            check.due("newness: " + sorted[i] + " before " + sorted[i + 1], 1, net.next(0));
        }
    }

    private static boolean isSameSet(String one, String other) {
        char[] mine = one.toCharArray();
        char[] its = other.toCharArray();
        Arrays.sort(mine);
        Arrays.sort(its);
        return Arrays.equals(mine, its);
    }

    private static String onKinds(String kinds) {
        StringBuilder text = new StringBuilder("0,0,9:");
        for (char kind : kinds.toCharArray()) {
            text.append(kind).append("(_,_,_)");
        }
        return text.append("=>^0").toString();
    }

    /** How many slots other than _ the conditions have, and how many < and / stand behind patterns. */
    private static void countsOfSlots() {
        String[] conditions = {"a(_,_,_)", "a(1,_,_)", "a(_,x,_)", "a(_,_,#2)", "a(<2,>0,_)", "a(x,x,x+0)", "a(_,_,_)<9", "a(1,_,_)<9",
            "a(_,_,_)!d(_,_,_)", "a(_,_,_)!d(1,_,_)", "a(_,_,_)!d(_,_,_)<1/1", "a(x,_,_)?b(x,_,_)<9", "a(_,_,_)*d(_,_,_)d(_,_,_)",
            "a(_,_,_)*d(x,_,_)d(x,_,1)", "a(_,_,_)*d(_,_,_)<3d(_,_,_)/1", "a(_,_,_)*d(_,_,_)d(_,_,_)<3/1", "a(_,_,_)$t:b(@,_,_)",
            "a(_,_,_)$t:b(@,1,_)<5/1", "a(x,y,z)!d(x,y,z)", "a(1,1,1)?b(1,1,1)!d(1,1,1)"};
        int[] counts = {0, 1, 1, 1, 2, 3, 1, 2, 0, 1, 2, 3, 0, 3, 2, 2, 1, 4, 6, 9};
        String[] plain = {"a(_,_,_)", "a(1,_,_)", "a(1,1,_)", "a(1,1,1)", "a(1,1,1)!d(1,_,_)", "a(1,1,1)!d(1,1,_)", "a(1,1,1)!d(1,1,1)",
            "a(1,1,1)!d(1,1,1)?b(1,_,_)", "a(1,1,1)!d(1,1,1)?b(1,1,_)", "a(1,1,1)!d(1,1,1)?b(1,1,1)"};
        for (int i = 0; i < conditions.length; i++) {
            String text = "0,0,9:" + conditions[i] + "=>^0";
            check.due(conditions[i] + " as special as this", 0, first("0,0,9:" + plain[counts[i]] + "=>^0", text));
            check.due(conditions[i] + " as special as this", 0, first(text, "0,0,9:" + plain[counts[i]] + "=>^0"));
            if (counts[i] > 0) {
                check.due(conditions[i] + " more so", 1, first("0,0,9:" + plain[counts[i] - 1] + "=>^0", text));
            }
            if (counts[i] < 9) {
                check.due(conditions[i] + " less so", 1, first(text, "0,0,9:" + plain[counts[i] + 1] + "=>^0"));
            }
        }
    }

    // ---- the focus and the firing

    private static void focusRow() {
        JoinNet net = Check.withRules("0,0,9:a(_,_,_)=>+b(0,0,0)", "0,1,9:a(_,_,_)=>+b(1,0,0)", "0,2,9:h(_,_,_)=>^0",
                "0,3,9:a(_,_,_)=>+b(3,0,0)");
        Check.fact(net, 'a', 0, 0, 0);
        check.due("at first 0 alone", 0, net.next(0));
        check.due("at first 0 alone", 2, net.focus(1));
        check.due("the last unit", 1, net.next(0));
        check.due("a unit may come twice", 3, net.focus(1));
        check.due("behind it", 4, net.focus(3));
        check.due("behind it", 5, net.focus(2));
        check.due("of unit 2", 0, net.agenda());
        check.due("while that has none, the one ahead of it", 3, net.next(0));
        check.due("fires it", 3, net.fire());
        check.due("2 was taken from the focus, 3 was not", 5, net.focus(2));
        check.due("2 and 3 are taken away", 1, net.fire());
        check.due("0 1 1", 4, net.focus(3));
        check.due("both 1 are taken away", 0, net.fire());
        check.due("0", 2, net.focus(3));
        check.due("none", NONE, net.fire());
        check.due("all but the first one, also if there is nothing to fire", 2, net.focus(3));
        check.due("none", 0, net.run(5));
        check.due("all but the first one", 2, net.focus(0));
        // The first one is not taken away, also when it has none.
        check.due("0 0", NONE, net.fire());
        Check.fact(net, 'a', 1, 0, 0);
        check.due("0 is still there", 0, net.fire());
        // A run looks for a match behind its last firing, but not if it has fired often enough.
        for (int most = 1; most <= 2; most++) {
            JoinNet run = Check.withRules("0,3,9:a(_,_,_)=>+b(0,0,0)");
            Check.fact(run, 'a', 0, 0, 0);
            run.focus(3);
            check.due("run", 1, run.run(most));
            check.due("the focus then", most == 1 ? 3 : 2, run.focus(3));
        }
    }

    private static void focusWhileFiring() {
        for (int units = 1; units <= 8; units++) {
            JoinNet net = Check.withRules("9,0,9:a(_,_,_)=>^1^2^3", "0,1,9:h(_,_,_)=>^0", "0,3,9:b(_,_,_)=>+c(3,0,0)",
                    "0,2,9:b(_,_,_)=>+c(2,0,0)");
            for (int i = 1; i < units; i++) {
                net.focus(0);
            }
            Check.fact(net, 'a', 0, 0, 0);
            check.due("fires", 0, net.fire());
            Check.fact(net, 'b', 0, 0, 0);
            // Of 1, 2 and 3 so many have room.
            int room = Math.min(3, 8 - units);
            check.due("the last unit", room == 3 ? 2 : room == 2 ? 3 : NONE, net.next(0));
            if (units + room == 8) {
                check.badState("8 units", () -> net.focus(0));
            } else {
                check.due("units", units + room + 1, net.focus(0));
            }
        }
    }

    private static void takenAsTheyAre() {
        JoinNet net = Check.withRules("0,0,100:a(x,y,_)$t:b(@,_,_)=>~1.0=x+1+b(x,y,7)+b(5,5,5)+c(x,y,t)");
        Check.fact(net, 'b', 3, 0, 0);
        Check.fact(net, 'a', 1, 2, 0);
        net.fire();
        check.isTrue("its variables", Check.has(net, 'b', 1, 2, 7));
        check.isTrue("the sum as it was", Check.has(net, 'c', 1, 2, 3));
        JoinNet other = Check.withRules("0,0,100:a(x,_,_)a(#x,_,_)=>-1~2.0=x+h(x,x,x)");
        Check.fact(other, 'a', 1, 0, 0);
        Check.fact(other, 'a', 2, 0, 0);
        other.fire();
        check.due("its facts, also when it does not hold any more", 2, other.facts());
        check.isTrue("its facts", Check.has(other, 'a', 1, 0, 0) && Check.has(other, 'h', 1, 1, 1));
        check.due("that is another one", 2, other.factAt(0));
    }

    private static void gradesOfFirings() {
        // Grades of two facts and of the rule, and what is due: the least times the rule's, divided by 100.
        int[][] cases = {{100, 100, 100, 100}, {100, 99, 99, 98}, {99, 100, 99, 98}, {50, 60, 33, 16}, {1, 1, 99, 0}, {0, 100, 100, 0},
            {100, 100, 0, 0}, {100, 100, 1, 1}, {7, 100, 100, 7}, {100, 7, 50, 3}};
        for (int[] one : cases) {
            JoinNet net = Check.withRules("0,0," + one[2] + ":a(_,_,_)b(_,_,_)=>+c(0,0,0)&d(0,0,0)");
            net.tell(0, 0, 0, 0, one[0], NONE);
            net.tell(1, 0, 0, 0, one[1], NONE);
            net.fire();
            check.due("grade of +", one[3], net.fact(2, 4));
            check.due("grade of &", one[3], net.fact(3, 4));
        }
        JoinNet three = Check.withRules("0,0,50:a(x,_,_)a(>x,_,_)a(>x+1,_,_)!b(_,_,_)=>+c(0,0,0)");
        three.tell(0, 1, 0, 0, 90, NONE);
        three.tell(0, 2, 0, 0, 80, NONE);
        three.tell(0, 3, 0, 0, 40, NONE);
        three.fire();
        check.due("of all three", 20, three.fact(3, 4));
        // As they were: what the firing itself changes does not count.
        JoinNet net = Check.withRules("0,0,50:a(_,_,_)b(_,_,_)=>+a(0,0,0)-2+c(0,0,0)");
        net.tell(0, 0, 0, 0, 20, NONE);
        net.tell(1, 0, 0, 0, 60, NONE);
        net.fire();
        check.due("20 and 10", 28, net.fact(0, 4));
        check.due("10", 10, net.fact(2, 4));
        // ~ takes over the grade of its fact, not that of the firing.
        JoinNet change = Check.withRules("0,0,50:a(_,_,_)b(_,_,_)=>~2.0=5~1.0=5");
        change.tell(0, 0, 0, 0, 20, 7);
        change.tell(1, 0, 0, 0, 60, 7);
        change.fire();
        check.due("its grade", 60, change.fact(2, 4));
        check.due("its grade", 20, change.fact(3, 4));
        change.pass(100);
        check.due("without a life", 2, change.facts());
    }

    private static void goneFacts() {
        String[] actions = {"-1-1", "-1~1.0=5", "~1.0=5^0-1", "~1.0=5~1.0=6", "-1+a(1,0,0)-1", "-1+a(1,0,0)~1.0=6", "~1.0=x^0-1", "~1.0=x~1.0=7"};
        int[] left = {NONE, NONE, 5, 5, 1, 1, 1, 1};
        for (int i = 0; i < actions.length; i++) {
            JoinNet net = Check.withRules("0,0,100:a(x,_,_)=>" + actions[i]);
            Check.fact(net, 'a', 1, 0, 0);
            check.due(actions[i], 0, net.fire());
            check.due(actions[i], left[i] == NONE ? 0 : 1, net.facts());
            check.due(actions[i], left[i], left[i] == NONE ? NONE : net.fact(1, 1));
        }
        // Of one fact in two conditions.
        JoinNet twice = Check.withRules("0,0,100:a(_,_,_)a(_,_,_)=>-1~2.0=8");
        Check.fact(twice, 'a', 1, 0, 0);
        twice.fire();
        check.due("it went already", 0, twice.facts());
        // A belief that goes while the firing is under way.
        JoinNet net = Check.withRules("1,0,100:a(_,_,_)=>&b(0,0,0)", "0,0,100:a(_,_,_)b(_,_,_)=>-1~2.0=8+c(0,0,0)");
        Check.fact(net, 'a', 1, 0, 0);
        net.run(2);
        check.isTrue("it went with its reason", net.facts() == 1 && Check.has(net, 'c', 0, 0, 0));
        // ~ of a belief makes it plain; what rested on it goes.
        JoinNet plain = Check.withRules("2,0,100:a(_,_,_)=>&b(0,0,0)", "1,0,100:b(x,_,_)=>&c(x,0,0)", "0,0,100:b(0,_,_)=>~1.2=3");
        Check.fact(plain, 'a', 1, 0, 0);
        plain.run(3);
        check.isTrue("another value", Check.has(plain, 'b', 0, 0, 3) && !Check.has(plain, 'b', 0, 0, 0));
        check.isTrue("what rested on it", !Check.has(plain, 'c', 0, 0, 0));
        check.due("a and b", 1, plain.drop(0));
    }

    private static void beliefsHold() {
        String[] ends = {"-1", "~1.0=5", "+c(1,0,0)", "-1+a(1,0,0)"};
        for (String end : ends) {
            JoinNet before = Check.withRules("0,0,100:a(x,_,_)!c(x,_,_)=>&b(x,0,0)" + end);
            Check.fact(before, 'a', 1, 0, 0);
            before.fire();
            check.isTrue("as long as it holds: & and then " + end, !Check.has(before, 'b', 1, 0, 0));
            JoinNet behind = Check.withRules("0,0,100:a(x,_,_)!c(x,_,_)=>" + end + "&b(x,0,0)");
            Check.fact(behind, 'a', 1, 0, 0);
            behind.fire();
            check.isTrue("it does nothing: " + end + " and then &", !Check.has(behind, 'b', 1, 0, 0));
        }
        JoinNet told = Check.withRules("0,0,50:a(x,_,_)!c(x,_,_)=>&b(x,0,0)+c(x,0,0)", "-1,0,50:a(x,_,_)=>-1&b(x,0,0)");
        Check.fact(told, 'a', 1, 0, 0);
        told.tell(1, 1, 0, 0, 50, NONE);
        told.fire();
        check.due("the plain reason is left", 50, told.fact(1, 4));
        check.due("its support is gone", 0, told.fact(1, 7));
        told.fire();
        check.due("nothing is done", 50, told.fact(1, 4));
        JoinNet ended = Check.withRules("0,0,50:a(x,_,_)!c(x,_,_)=>+c(x,0,0)&b(x,0,0)");
        Check.fact(ended, 'a', 1, 0, 0);
        ended.tell(1, 1, 0, 0, 50, NONE);
        ended.fire();
        check.due("if it does not hold any more, nothing is done", 0, ended.fact(1, 7));
        // Reasons are counted for each match, and go one by one.
        JoinNet net = Check.withRules("0,0,50:a(_,_,_)=>&b(0,0,0)");
        for (int i = 0; i < 3; i++) {
            Check.fact(net, 'a', i, 0, 0);
        }
        for (int i = 0; i < 3; i++) {
            net.fire();
        }
        int[] grades = {87, 75, 50};
        for (int left = 3; left > 0; left--) {
            check.due("supports", left, net.fact(3, 7));
            check.due("grade", grades[3 - left], net.fact(3, 4));
            check.due("the latest a was fired first", left - 1, net.why(3, 0, 1));
            net.drop(left - 1);
        }
        check.due("no reason any more", 0, net.facts());
    }

    /** As long as there is a fact that is not founded, the one with the lowest number goes. */
    private static void settledInOrder() {
        // b and c hold one another. When the lower one goes, "no b" (or "no c") holds while the other is still there.
        for (int turn = 0; turn < 2; turn++) {
            char low = turn == 0 ? 'b' : 'c';
            char high = turn == 0 ? 'c' : 'b';
            JoinNet net = Check.withRules("5,0,9:a(x,_,_)=>&L(x,0,0)".replace('L', low), "4,0,9:b(x,_,_)=>&c(x,0,0)",
                    "4,0,9:c(x,_,_)=>&b(x,0,0)", "1,0,9:h(_,_,_)*b(x,_,_)c(x,_,_)=>^0", "1,0,9:h(_,_,_)*c(x,_,_)b(x,_,_)=>^0");
            Check.fact(net, 'h', 0, 0, 0);
            Check.fact(net, 'a', 0, 0, 0);
            order(net);
            check.due("all fired", 0, net.agenda());
            check.due("ring", 4, net.facts());
            check.due("lower", low - 'a', net.fact(2, 0));
            check.due("not founded", 1, net.drop(1));
            check.due("one was not met for a moment", 1, net.agenda());
            check.due("each " + high + " has a " + low, high == 'b' ? 3 : 4, net.next(0));
        }
        // A ring that is held by one more reason stays, until that goes.
        JoinNet net = Check.withRules("0,0,9:a(_,_,_)=>&b(0,0,0)", "0,0,9:b(_,_,_)=>&c(0,0,0)", "0,0,9:c(_,_,_)=>&d(0,0,0)",
                "0,0,9:d(_,_,_)=>&b(0,0,0)", "0,0,9:e(_,_,_)=>&c(0,0,0)");
        Check.fact(net, 'a', 0, 0, 0);
        Check.fact(net, 'e', 0, 0, 0);
        for (int i = 0; i < 6; i++) {
            net.fire();
        }
        check.due("ring", 5, net.facts());
        check.due("e holds it", 4, net.drop(0));
        check.due("nothing holds it", 0, net.drop(1));
        // A support may stand ahead of that by which it is founded.
        JoinNet turned = Check.withRules("0,0,9:a(_,_,_)=>&b(0,0,0)", "0,0,9:b(_,_,_)=>&c(0,0,0)", "0,0,9:c(_,_,_)=>&d(0,0,0)");
        Check.fact(turned, 'a', 0, 0, 0);
        order(turned);
        Check.fact(turned, 'a', 1, 0, 0);
        order(turned);
        check.due("the later a holds b, c and d", 4, turned.drop(0));
        check.due("nothing holds them", 0, turned.drop(4));
        // A belief that is dropped takes its supports along, and those that rest on it, but no others.
        JoinNet three = Check.withRules("0,0,9:a(_,_,_)=>&b(0,0,0)&c(0,0,0)&d(0,0,0)", "0,0,9:c(_,_,_)=>&e(0,0,0)&d(0,0,0)");
        Check.fact(three, 'a', 0, 0, 0);
        order(three);
        check.due("b goes", 4, three.drop(1));
        check.due("c is believed", 0, three.why(2, 0, 0));
        check.due("d is believed by two", 2, three.fact(3, 7));
        check.due("c goes, and e", 2, three.drop(2));
        check.due("d is believed by one", 1, three.fact(3, 7));
        check.due("that is a", 0, three.why(3, 0, 1));
        // A support needs all facts of its match to be founded.
        JoinNet both = Check.withRules("9,0,9:a(_,_,_)=>&b(0,0,0)", "0,0,9:e(_,_,_)b(_,_,_)=>&b(0,0,0)", "0,0,9:e(_,_,_)b(_,_,_)=>&c(0,0,0)");
        Check.fact(both, 'a', 0, 0, 0);
        Check.fact(both, 'e', 0, 0, 0);
        both.fire();
        both.fire();
        both.fire();
        check.due("b and c", 4, both.facts());
        check.due("b by two", 2, both.fact(2, 7));
        check.due("b does not found itself", 1, both.drop(0));
    }

    // ---- taking back, and loops

    private static void latestSix() {
        for (int often = 0; often <= 8; often++) {
            for (int many = 1; many <= 6; many++) {
                JoinNet net = BoundsTest.fired(often);
                int most = many;
                if (many > Math.min(6, often)) {
                    check.badState("not so many: " + many + " of " + often, () -> net.takeBack(most));
                    continue;
                }
                check.due(many + " of " + often, Math.min(6, often) - many, net.takeBack(many));
                check.isTrue(many + " of " + often, Check.has(net, 'a', often - many, 0, 0));
                // Those that are left are the same as one by one.
                for (int left = Math.min(6, often) - many; left > 0; left--) {
                    check.due("one more", left - 1, net.takeBack(1));
                }
                check.isTrue("all of them", Check.has(net, 'a', Math.max(0, often - 6), 0, 0));
                check.badState("none is left", () -> net.takeBack(1));
            }
        }
        JoinNet net = BoundsTest.fired(4);
        net.takeBack(2);
        net.run(3);
        check.due("2 and 3", 4, net.takeBack(1));
        net.fire();
        net.fire();
        check.due("those of before and of now", 0, net.takeBack(6));
        check.isTrue("all of them", Check.has(net, 'a', 0, 0, 0));
    }

    /** An object after so many of nine steps, each of them with a firing at its end, or ahead of the last one. */
    private static JoinNet stepped(int steps, boolean isAhead) {
        JoinNet net = Check.withRules("0,0,80:a(x,_,_)!b(x,_,_)=>&c(x,0,0)+d(0,0,x)^1", "0,1,50:c(x,_,_)d(_,_,_)=>~2.0=1+b(x,0,0)",
                "-5,0,50:a(x,y,_)=>~1.1=y+1&h(x,y,0)^0^2", "5,2,90:d(x,_,_)a(_,_,_)=>&e(x,0,0)&c(x,0,0)");
        Check.fact(net, 'a', 1, 0, 0);
        for (int i = 0; i < steps; i++) {
            net.tell(i % 3, i, 0, 0, 20 + i, 3 + i);
            if (i % 2 == 0) {
                net.pass(1);
            }
            if (isAhead && i == steps - 1) {
                return net;
            }
            check.isTrue("fires", net.fire() != NONE);
            net.tell(0, 1, 0, 0, 10, NONE);
            if (i == 4) {
                net.drop(net.factAt(0));
            }
        }
        return net;
    }

    /** Whatever is done behind a firing, taking it back brings all back that was there ahead of it. */
    private static void allIsAsItWas() {
        for (int many = 1; many <= 6; many++) {
            JoinNet net = stepped(9, false);
            net.pass(3);
            net.tell(7, 7, 7, 7, 7, NONE);
            net.takeBack(many);
            JoinNet due = stepped(10 - many, true);
            check.isTrue("all is as it was ahead of " + many, Story.ofMoment(due).equals(Story.ofMoment(net)));
            check.due("it goes on as it did then", due.fire(), net.fire());
            check.isTrue("as it was behind it", Story.ofMoment(due).equals(Story.ofMoment(net)));
            check.due("the focus", due.focus(1), net.focus(1));
            check.due("it goes on as it did then", due.run(9), net.run(9));
            check.isTrue("as it was then", Story.ofMoment(due).equals(Story.ofMoment(net)));
            check.due("time", due.pass(1), net.pass(1));
        }
    }

    private static void eachPartIsBack() {
        // Facts in all of the room for 20.
        for (int last = 0; last < 20; last++) {
            JoinNet net = Check.withRules("0,0,9:a(" + last + ",_,_)=>~1.0=50+c(0,0,0)");
            for (int i = 0; i < 20; i++) {
                net.tell(0, i, 100 + i, 200 + i, i, NONE);
            }
            net.fire();
            check.isTrue("would be", !net.wouldBe(1, 2, 0, 0, 0) && Check.has(net, 'a', 50, 100 + last, 200 + last));
            net.takeBack(1);
            check.due("20 facts", 20, net.facts());
            check.due("its number", last, net.factAt(last));
            for (int slot = 0; slot < 3; slot++) {
                check.due("its slots", 100 * slot + last, net.fact(last, 1 + slot));
            }
        }
        // A life, in the room of a fact that has none.
        JoinNet life = Check.withRules("0,0,9:a(_,_,_)=>~1.0=5");
        life.pass(2);
        life.tell(0, 1, 0, 0, 9, 3);
        life.pass(1);
        life.fire();
        life.pass(9);
        check.due("without a life", 1, life.facts());
        life.takeBack(1);
        check.due("the time at which it came", 2, life.fact(0, 5));
        life.pass(1);
        check.due("its life", 1, life.facts());
        check.due("now", 5, life.pass(1));
        check.due("its life is over", 0, life.facts());
        // What was fired, and supports, of which those ahead are gone in between.
        JoinNet net = Check.withRules("0,0,9:a(x,_,_)=>&b(x,0,0)");
        for (int i = 0; i < 3; i++) {
            Check.fact(net, 'a', i, 0, 0);
        }
        for (int i = 0; i < 3; i++) {
            net.fire();
        }
        check.due("a2 and b2 go", 4, net.drop(2));
        net.takeBack(1);
        check.due("a0 is open", 0, net.next(1));
        check.due("a0 alone", 1, net.agenda());
        check.due("a0 to a2, b2 and b1", 5, net.facts());
        check.due("b2 is believed by a2", 2, net.why(3, 0, 1));
        check.due("b1 is believed by a1", 1, net.why(4, 0, 1));
        check.due("a1 and b1 go", 3, net.drop(1));
        net.takeBack(2);
        check.due("all are open", 3, net.agenda());
        check.due("no beliefs", 3, net.facts());
        // As many that were fired as one likes.
        for (int often : new int[] {31, 32, 33, 64, 65, 100}) {
            JoinNet many = Check.withRules("0,0,9:a(_,_,_)a(_,_,_)=>&h(0,0,0)");
            for (int i = 0; i < 12; i++) {
                Check.fact(many, 'a', i, 0, 0);
            }
            for (int i = 0; i < often; i++) {
                many.fire();
            }
            check.due("left", 144 - often, many.agenda());
            check.due("supports", often, many.fact(12, 7));
            check.isTrue("would be", many.wouldBe(9, 7, 0, 0, 0));
            check.due("left", 144 - often, many.agenda());
            many.takeBack(1);
            check.due("one more", 145 - often, many.agenda());
            check.due("supports", often - 1, many.fact(12, 7));
            many.drop(11);
            check.due("those of the others", 121, many.matches());
            // The 23 pairs with 11 were fired first.
            check.due("open ones of the others", 121 - (often - 1 - 23), many.agenda());
        }
    }

    private static void whatStays() {
        JoinNet net = Check.withRules("0,0,100:a(x,_,_)=>~1.0=x+1^1");
        Check.fact(net, 'a', 0, 0, 0);
        net.focus(2);
        net.focus(0);
        net.run(2);
        Check.feed(net, "a(1,1,1):a(_,_,");
        Check.feed(net, "_");
        net.row(0, 0, 9, 0, 9, 7, 1);
        net.policy(1, JoinNet.SUM);
        Check.feed(net, ")");
        net.takeBack(2);
        check.due("not the tape", 1, net.goal());
        check.due("not the tables", 7, net.outcome(0, 0, 0));
        check.due("not the policies", JoinNet.SUM, net.policy(1, JoinNet.ONE));
        check.due("the focus", 4, net.focus(3));
        net.run(1);
        net.takeBack(1);
        check.isTrue("not the goal rules", net.follows(0, 1, 1, 1));
        check.due("the numbers", 1, Check.fact(net, 'h', 0, 0, 0));
        check.due("the rules", 1, net.matches());
        // A firing that finds no match is none, and what a wouldBe does is none.
        JoinNet none = Check.withRules("0,0,100:a(1,_,_)=>-1");
        Check.fact(none, 'a', 1, 0, 0);
        none.wouldBe(5, 0, 0, 0, 0);
        check.badState("none yet", () -> none.takeBack(1));
        none.fire();
        none.fire();
        none.run(3);
        check.badState("one firing", () -> none.takeBack(2));
        check.due("one firing", 0, none.takeBack(1));
        check.due("the fact is back", 0, none.factAt(0));
        check.due("and the match is open", 1, none.agenda());
    }

    private static void forgotten() {
        String good = "0,3,9:h(_,_,_)=>^0";
        JoinNet told = BoundsTest.fired(3);
        check.due("a rule", 1, Check.rule(told, good));
        check.badState("forgotten, when a rule is told", () -> told.takeBack(1));
        told.fire();
        check.due("those since then", 0, told.takeBack(1));
        check.isTrue("as it was ahead of that", Check.has(told, 'a', 3, 0, 0));
        JoinNet dropped = BoundsTest.fired(3);
        dropped.dropRule(0);
        check.badState("forgotten, when a rule is dropped", () -> dropped.takeBack(1));
        JoinNet refused = BoundsTest.fired(3);
        Check.feed(refused, "x");
        check.badState("no rule", refused::rule);
        check.badIndex("no such rule", () -> refused.dropRule(1));
        Check.goal(refused, "a(1,2,3):b(_,_,_)");
        check.due("a call that throws forgets nothing, nor does a goal rule", 0, refused.takeBack(3));
        // Supports and what was fired stay as they are.
        JoinNet net = Check.withRules("0,0,100:a(_,_,_)=>&b(0,0,0)");
        Check.fact(net, 'a', 0, 0, 0);
        net.fire();
        Check.rule(net, good);
        check.isTrue("not open again, and its belief holds", net.agenda() == 0 && net.facts() == 2);
        net.dropRule(1);
        check.isTrue("not open again, and its belief holds", net.agenda() == 0 && net.facts() == 2);
    }

    private static int loopOf(int most, int fires, JoinNet net) {
        check.due("firings", fires, net.run(most));
        return net.loop();
    }

    /** The state is the facts that are there by kinds and slots, and the focus. */
    private static void states() {
        // Grades, reasons, times, numbers and what was fired are no part of it.
        JoinNet grade = Check.withRules("0,0,50:a(_,_,_)=>+a(0,0,0)");
        grade.tell(0, 0, 0, 0, 10, NONE);
        check.due("a grade", 1, loopOf(9, 1, grade));
        JoinNet reason = Check.withRules("0,0,50:a(_,_,_)=>&b(0,0,0)");
        Check.fact(reason, 'a', 0, 0, 0);
        Check.fact(reason, 'b', 0, 0, 0);
        check.due("a support", 1, loopOf(9, 1, reason));
        JoinNet number = Check.withRules("0,0,50:a(x,_,_)=>~1.0=x");
        Check.fact(number, 'a', 0, 0, 0);
        check.due("a number", 1, loopOf(9, 1, number));
        // The facts come again in another order.
        for (String again : new String[] {"+b(5,0,0)+a(1,0,0)", "+a(1,0,0)+b(5,0,0)"}) {
            for (int rest = 0; rest < 3; rest++) {
                JoinNet order = Check.withRules("0,0,50:a(1,_,_)b(_,_,_)=>-1-2" + again);
                Check.fact(order, rest == 1 ? 'b' : 'a', rest == 1 ? 5 : 1, 0, 0);
                Check.fact(order, 'c', 0, 0, 0);
                Check.fact(order, rest == 1 ? 'a' : 'b', rest == 1 ? 1 : 5, 0, 0);
                Check.fact(order, 'a', 0, 2, 0);
                check.due("the order of facts", 1, loopOf(9, 1, order));
            }
        }
        JoinNet turned = Check.withRules("0,0,50:a(_,_,_)=>^2^1");
        Check.fact(turned, 'a', 0, 0, 0);
        turned.focus(1);
        turned.focus(2);
        check.due("the order of units", 0, loopOf(9, 1, turned));
        JoinNet same = Check.withRules("0,0,50:a(_,_,_)=>^1^2");
        Check.fact(same, 'a', 0, 0, 0);
        same.focus(1);
        same.focus(2);
        check.due("the same units in the same order", 1, loopOf(9, 1, same));
        // Kinds, each slot, and the focus are.
        String[] others = {"-1+b(0,0,0)", "~1.0=1", "~1.1=1", "~1.2=1", "+a(1,0,0)", "-1", "^0", "^1"};
        for (String action : others) {
            JoinNet net = Check.withRules("0,0,50:a(0,0,0)=>" + action);
            Check.fact(net, 'a', 0, 0, 0);
            check.due("another state by " + action, 0, loopOf(9, 1, net));
        }
        JoinNet units = Check.withRules("0,0,50:a(x,_,_)=>~1.0=x^1", "0,1,50:a(x,_,_)=>~1.0=x^0");
        Check.fact(units, 'a', 0, 0, 0);
        check.due("a longer focus each time, until it is full", 1, loopOf(50, 8, units));
        // At its beginning is ahead of the first firing: what that takes from the focus is another state.
        JoinNet focus = Check.withRules("0,0,50:a(x,_,_)=>~1.0=x");
        Check.fact(focus, 'a', 0, 0, 0);
        focus.focus(1);
        check.due("then behind the first firing", 1, loopOf(9, 2, focus));
        check.due("at its beginning", 1, loopOf(9, 1, focus));
        // Time is none: it does not go on in a run, but between two.
        focus.pass(9);
        check.due("another time", 1, loopOf(9, 1, focus));
    }

    private static JoinNet counter(int from, int to, int back) {
        JoinNet net = Check.withRules("1,0,9:a(" + to + ",_,_)=>~1.0=" + back, "0,0,9:a(x,_,_)=>~1.0=x+1");
        Check.fact(net, 'a', from, 0, 0);
        return net;
    }

    private static void lengthsOfLoops() {
        check.due("none yet", 0, new JoinNet().loop());
        for (int length : new int[] {1, 2, 3, 10, 49, 50}) {
            check.due("a ring of " + length, length, loopOf(50, length, counter(0, length - 1, 0)));
            if (length > 1) {
                check.due("just not again", 0, loopOf(length - 1, length - 1, counter(0, length - 1, 0)));
            }
            check.due("just again", length, loopOf(length, length, counter(0, length - 1, 0)));
        }
        check.due("a ring of 51", 0, loopOf(50, 50, counter(0, 50, 0)));
        for (int ahead : new int[] {1, 2, 7, 40}) {
            check.due("ahead of the ring", 5, loopOf(50, ahead + 5, counter(0, ahead + 4, ahead)));
        }
        check.due("ahead of the ring of 5", 0, loopOf(50, 50, counter(0, 50, 46)));
        check.due("ahead of the ring of 5", 5, loopOf(50, 50, counter(0, 49, 45)));
        JoinNet net = counter(0, 3, 0);
        check.due("a loop", 4, loopOf(9, 4, net));
        check.due("the latest run", 0, loopOf(3, 3, net));
        check.due("only the states of this run", 4, loopOf(9, 4, net));
        net.fire();
        check.due("a firing is no run", 4, net.loop());
        net.drop(net.factAt(0));
        check.due("the latest run", 0, loopOf(3, 0, net));
    }

    private static void wouldBe() {
        // What would be is what is, once it is run.
        int[] mosts = {1, 2, 3, 10, 49, 50};
        for (int most : mosts) {
            for (int value = 0; value <= 51; value += most > 9 ? 1 : 17) {
                JoinNet net = counter(0, 100, 0);
                boolean told = net.wouldBe(most, 0, value, 0, 0);
                net.run(most);
                check.isTrue("after " + most + " there is " + value, told == Check.has(net, 'a', value, 0, 0));
                check.due("after " + most + " there is " + value, value == most ? 1 : 0, told ? 1 : 0);
            }
        }
        JoinNet net = counter(0, 4, 2);
        check.isTrue("it ends with the loop", net.wouldBe(50, 0, 2, 0, 0) && !net.wouldBe(50, 0, 3, 0, 0));
        check.isTrue("also if it is there already", !net.wouldBe(1, 0, 0, 0, 0));
        check.isTrue("no kind, no slot but its own", !net.wouldBe(1, 1, 1, 0, 0) && !net.wouldBe(1, 0, 1, 1, 0) && !net.wouldBe(1, 0, 1, 0, 1));
        check.isTrue("nothing to fire", BoundsTest.following(1).wouldBe(1, 0, 0, 0, 0));
        check.isTrue("what follows is not there", !BoundsTest.following(1).wouldBe(1, 1, 0, 0, 0));
    }

    // ---- goals and tables

    private static void goals() {
        check.isNoGoal("a(1,2,3):");
        String patterns = "";
        for (int many = 1; many <= 4; many++) {
            patterns += "b(" + (char) ('p' + many) + ",_,_)";
            if (many <= 3) {
                check.isGoal("a(q,2,3):" + patterns);
            } else {
                check.isNoGoal("a(q,2,3):" + patterns);
            }
        }
        for (String slot : new String[] {"<1", ">1", "#1", "x+1", "x-1", "<x", "@", "", "1+1", "xx", "-", "-x"}) {
            check.isNoGoal("a(x,2,3):b(x,_,_)c(_," + slot + ",_)");
            check.isNoGoal("a(x,2," + slot + "):b(x,_,_)");
        }
        for (String suffix : new String[] {"<1", "/1", "<1/1", "<", "/", "!", ",", ":", "=>^0", "x", "_"}) {
            check.isNoGoal("a(x,2,3):b(x,_,_)" + suffix);
            check.isNoGoal("a(x,2,3):b(x,_,_)" + suffix + "c(_,_,_)");
            check.isNoGoal("a(x,2,3)" + suffix + ":b(x,_,_)");
        }
        check.isNoGoal("a(x,2,_):b(x,_,_)");
        check.isNoGoal("a(x,y,z):b(x,y,_)");
        check.isGoal("a(x,y,z):b(x,y,_)c(z,_,_)");
        check.isGoal("a(x,x,x):b(_,_,x)");
        check.isGoal("a(0,0,0):b(x,y,z)");
        // The least set: nothing from nothing, all of a ring, and what several patterns tell together.
        JoinNet net = new JoinNet();
        Check.goal(net, "b(x,y,0):b(y,x,0)");
        Check.goal(net, "b(x,y,0):a(x,y,0)");
        Check.goal(net, "c(x,z,0):b(x,y,0)b(y,z,0)b(z,x,0)");
        check.isTrue("nothing of itself", !net.follows(1, 1, 2, 0) && !net.follows(1, 0, 0, 0));
        Check.fact(net, 'a', 1, 2, 0);
        Check.fact(net, 'a', 2, 3, 0);
        check.isTrue("facts", net.follows(0, 1, 2, 0) && !net.follows(0, 2, 1, 0));
        check.isTrue("both ways", net.follows(1, 1, 2, 0) && net.follows(1, 2, 1, 0) && net.follows(1, 3, 2, 0));
        check.isTrue("three that are joined", !net.follows(2, 1, 2, 0) && !net.follows(2, 1, 1, 0));
        Check.fact(net, 'a', 3, 1, 0);
        check.isTrue("three that are joined", net.follows(2, 1, 2, 0) && net.follows(2, 1, 3, 0) && !net.follows(2, 1, 1, 0));
        Check.fact(net, 'a', 4, 4, 0);
        check.isTrue("the same thing for all three", net.follows(2, 4, 4, 0) && !net.follows(2, 4, 1, 0));
        net.drop(1);
        check.isTrue("no ring any more", !net.follows(2, 1, 2, 0) && net.follows(1, 1, 2, 0));
        check.due("nothing is told by that", 3, net.facts());
        for (int slot = 0; slot < 3; slot++) {
            int[] slots = {7, 7, 7};
            slots[slot] = 8;
            JoinNet all = new JoinNet();
            Check.goal(all, "h(x,y,z):b(x,y,z)c(x,y,z)");
            Check.goal(all, "g(x,x,x):b(x,x,x)");
            Check.goal(all, "f(0,0,0):c(7,7,7)");
            all.tell(1, 7, 7, 7, 0, NONE);
            all.tell(2, slots[0], slots[1], slots[2], 0, NONE);
            check.isTrue("each slot, by a variable", !all.follows(7, 7, 7, 7));
            check.isTrue("each slot, by an INT", !all.follows(5, 0, 0, 0));
            check.isTrue("each slot, by itself", all.follows(6, 7, 7, 7));
            all.tell(2, 7, 7, 7, 0, NONE);
            check.isTrue("each slot", all.follows(7, 7, 7, 7) && all.follows(5, 0, 0, 0));
            all.drop(0);
            all.tell(1, slots[0], slots[1], slots[2], 0, NONE);
            check.isTrue("each slot, by itself", !all.follows(6, 7, 7, 7));
            check.isTrue("each slot", all.follows(7, slots[0], slots[1], slots[2]));
        }
        // A goal rule's variables are its own, whatever a rule has told of them.
        JoinNet own = Check.withRules("0,0,9:a(y,_,_)!b(x,y,z)=>^0");
        Check.goal(own, "c(x,y,z):b(x,y,z)");
        Check.rule(own, "0,0,9:a(y,_,_)?b(x,y,z)=>^0");
        Check.goal(own, "d(y,z,x):b(x,y,z)");
        Check.fact(own, 'b', 4, 5, 6);
        check.isTrue("its own variables", own.follows(2, 4, 5, 6) && own.follows(3, 5, 6, 4) && !own.follows(2, 0, 0, 0));
        JoinNet values = new JoinNet();
        Check.goal(values, "h(-999,x,y):g(x,y,999)");
        values.tell(6, -999, 999, 999, 0, NONE);
        check.isTrue("values at their bounds", values.follows(7, -999, -999, 999) && !values.follows(7, -999, 999, -999));
    }

    private static void policies() {
        // Rows of three outcomes and ranks; what is due for ONE, FIRST, RANK and SUM when the first so many hit.
        int[][] rows = {{10, 3}, {-20, 5}, {40, 5}, {99, 0}};
        int[][] due = {{NONE, NONE, NONE, NONE}, {10, 10, 10, 10}, {NONE, 10, -20, -10}, {NONE, 10, -20, 30}, {NONE, 10, -20, 129}};
        for (int table = 0; table < 2; table++) {
            for (int hits = 0; hits <= 4; hits++) {
                for (int policy = JoinNet.ONE; policy <= JoinNet.SUM; policy++) {
                    JoinNet net = new JoinNet();
                    net.policy(table, policy);
                    for (int i = 0; i < hits; i++) {
                        net.row(table, 4, 6, 4, 6, rows[i][0], rows[i][1]);
                        net.row(table, 7, 9, 4, 6, -99, 9);
                    }
                    check.due("policy " + policy + " of " + hits, due[hits][policy], net.outcome(table, 5, 5));
                    check.due("the other table", NONE, net.outcome(1 - table, 5, 5));
                }
            }
        }
        JoinNet zero = new JoinNet();
        zero.row(0, 0, 0, 0, 0, 0, 0);
        for (int policy = JoinNet.ONE; policy <= JoinNet.SUM; policy++) {
            zero.policy(0, policy);
            check.due("an outcome of 0 is one", 0, zero.outcome(0, 0, 0));
            check.due("NONE always, if none hits", NONE, zero.outcome(0, 0, 1));
        }
        JoinNet rank = new JoinNet();
        rank.policy(0, JoinNet.RANK);
        for (int i = 0; i < 8; i++) {
            rank.row(0, 0, 9, 0, 9, i, new int[] {0, 1, 1, 8, 9, 9, 2, 9}[i]);
        }
        check.due("the greatest rank, the first of several", 4, rank.outcome(0, 3, 3));
    }

    private static void rowsAndHoles() {
        int[][] ranges = {{0, 0}, {0, 9}, {9, 9}, {3, 5}, {4, 4}};
        for (int[] range : ranges) {
            for (int[] other : ranges) {
                JoinNet net = new JoinNet();
                net.row(1, range[0], range[1], other[0], other[1], 7, 0);
                boolean isWhole = true;
                for (int pair = 0; pair < 100; pair++) {
                    int one = pair / 10;
                    int two = pair % 10;
                    boolean isHit = one >= range[0] && one <= range[1] && two >= other[0] && two <= other[1];
                    check.due("within both ranges", isHit ? 7 : NONE, net.outcome(1, one, two));
                    if (!isHit && isWhole) {
                        isWhole = false;
                        check.due("the first hole", pair, net.hole(1, false));
                    }
                }
                if (isWhole) {
                    check.due("no hole", NONE, net.hole(1, false));
                }
                check.due("no overlap of one row", NONE, net.hole(1, true));
                net.row(1, range[0], range[1], other[0], other[1], 7, 0);
                check.due("an overlap of both", 10 * range[0] + other[0], net.hole(1, true));
                for (int off : new int[] {-999, -1, 10, 999}) {
                    check.due("values that no row hits", NONE, net.outcome(1, off, 4));
                    check.due("values that no row hits", NONE, net.outcome(1, 4, off));
                }
            }
        }
        // Values are compared by the first one, and then by the other one.
        JoinNet net = new JoinNet();
        net.row(0, 0, 0, 0, 9, 1, 1);
        net.row(0, 1, 9, 0, 4, 1, 1);
        check.due("hole", 15, net.hole(0, false));
        net.row(0, 5, 5, 1, 1, 1, 1);
        check.due("overlap", 51, net.hole(0, true));
        net.row(0, 2, 2, 3, 3, 1, 1);
        check.due("overlap", 23, net.hole(0, true));
        net.row(0, 0, 0, 9, 9, 1, 1);
        check.due("overlap", 9, net.hole(0, true));
        net.row(0, 1, 9, 5, 8, 1, 1);
        check.due("hole", 19, net.hole(0, false));
        net.row(0, 1, 8, 9, 9, 1, 1);
        check.due("hole", 99, net.hole(0, false));
        net.row(0, 9, 9, 9, 9, 1, 1);
        check.due("none", NONE, net.hole(0, false));
        check.due("a policy does not matter", 0, net.policy(0, JoinNet.FIRST));
        check.due("overlap", 9, net.hole(0, true));
    }
}
