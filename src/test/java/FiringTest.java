/** Promises 14 to 22, and what Firing and Taking back in the document say. */
public final class FiringTest {
    private static final int NONE = JoinNet.NONE;
    private static final Check check = new Check("FiringTest");

    public static void main(String[] args) {
        focus();
        focusWhileFiring();
        agenda();
        next();
        agendaByRank();
        agendaByNewness();
        agendaBySpecialness();
        agendaByRulesAndFacts();
        openAgain();
        fire();
        expressions();
        letGoAndChange();
        fullOfFacts();
        beliefs();
        beliefsThatEndWhileFiring();
        rings();
        lowestNumberFirst();
        manyReasons();
        grades();
        run();
        loop();
        wouldBe();
        takeBack();
        why();
        check.end();
    }

    /** Fires until there is no match, and returns the rules as the digits of a number. */
    private static long order(JoinNet net) {
        long order = 0;
        for (int rule = net.fire(); rule != NONE; rule = net.fire()) {
            order = 10 * order + rule + 1;
        }
        return order;
    }

    private static void focus() {
        JoinNet net = new JoinNet();
        check.badArgument("14 4", () -> net.focus(4));
        check.badArgument("14 -1", () -> net.focus(-1));
        for (int i = 2; i <= 8; i++) {
            check.due("14 focus", i, net.focus(i % 4));
        }
        check.badState("14 8 units", () -> net.focus(0));
        check.badArgument("14 argument first", () -> net.focus(4));
        // Nothing to fire: all but the first one are taken away.
        check.due("14 fire", NONE, net.fire());
        check.due("14 one left", 2, net.focus(3));
        check.due("14 run", 0, net.run(1));
        check.due("14 one left", 2, net.focus(3));
        check.due("14 next takes nothing away", NONE, net.next(0));
        check.due("14 three", 3, net.focus(3));
    }

    private static void focusWhileFiring() {
        JoinNet net = Check.withRules("0,0,100:a(_,_,_)=>^1^2", "0,1,100:a(_,_,_)=>^3", "0,2,100:a(_,_,_)=>^2",
                "0,3,100:a(_,_,_)=>^1");
        Check.fact(net, 'a', 0, 0, 0);
        check.due("focus 0, then 2, then 1, then 3", 1324, order(net));
        Check.fact(net, 'a', 1, 0, 0);
        net.focus(1);
        net.focus(3);
        check.due("focus 3, 1, 3 has none, 0, 2", 4213, order(net));
        // At most 8: the ^ of the 8th and later do nothing.
        JoinNet full = Check.withRules("0,0,100:a(_,_,_)=>^1^1^1^1", "0,1,100:a(_,_,_)=>^2^2^2^2", "0,2,100:a(_,_,_)=>^0");
        Check.fact(full, 'a', 0, 0, 0);
        full.fire();
        full.fire();
        check.badState("8 units", () -> full.focus(0));
        check.due("the last one is 2", 2, full.fire());
        check.due("none", NONE, full.fire());
        check.due("again", 2, full.focus(0));
    }

    private static void agenda() {
        JoinNet net = Check.withRules("0,0,100:a(_,_,_)=>^0", "0,0,100:a(_,_,_)a(_,_,_)=>^0", "0,1,100:a(_,_,_)=>&h(0,0,0)");
        check.due("15 none", 0, net.agenda());
        Check.fact(net, 'a', 0, 0, 0);
        Check.fact(net, 'a', 1, 0, 0);
        check.due("15 of unit 0", 6, net.agenda());
        net.focus(1);
        check.due("15 of unit 1", 2, net.agenda());
        net.fire();
        check.due("15 open ones", 1, net.agenda());
        net.fire();
        check.due("15 none open", 0, net.agenda());
        check.due("15 still unit 1", 0, net.agenda());
        net.fire();
        check.due("15 unit 0 again", 5, net.agenda());
    }

    private static void next() {
        JoinNet net = Check.withRules("0,0,100:a(x,_,_)a(#x,_,_)=>^0", "0,1,100:b(_,_,_)c(_,_,_)b(_,_,_)=>^0");
        for (int what = 0; what < 4; what++) {
            check.due("16 none", NONE, net.next(what));
        }
        check.badArgument("16 4", () -> net.next(4));
        check.badArgument("16 -1", () -> net.next(-1));
        Check.fact(net, 'a', 0, 0, 0);
        Check.fact(net, 'a', 1, 0, 0);
        net.focus(1);
        int[] pair = {0, 0, 1, NONE};
        for (int what = 0; what < 4; what++) {
            check.due("16 behind an empty unit", pair[what], net.next(what));
        }
        check.due("16 the focus stays", 3, net.focus(1));
        Check.fact(net, 'b', 0, 0, 0);
        Check.fact(net, 'c', 0, 0, 0);
        int[] three = {1, 2, 3, 2};
        for (int what = 0; what < 4; what++) {
            check.due("16 of the last unit", three[what], net.next(what));
        }
        check.due("16 fires that", 1, net.fire());
        check.due("16 then the other", 0, net.next(0));
    }

    private static void agendaByRank() {
        JoinNet net = Check.withRules("-5,0,100:a(_,_,_)=>^0", "7,0,100:b(_,_,_)=>^0", "99,0,100:c(_,_,_)=>^0",
                "-99,0,100:d(_,_,_)=>^0", "0,0,100:d(_,_,_)=>^0");
        for (char kind = 'd'; kind >= 'a'; kind--) {
            Check.fact(net, kind, 0, 0, 0);
        }
        check.due("ranks", 32514, order(net));
    }

    private static void agendaByNewness() {
        JoinNet net = Check.withRules("0,0,100:a(_,_,_)=>^0", "0,0,100:b(_,_,_)=>^0", "0,0,100:a(_,_,_)b(_,_,_)=>^0",
                "0,0,100:c(_,_,_)b(_,_,_)a(_,_,_)=>^0", "0,0,100:c(_,_,_)=>^0", "0,0,100:c(1,_,_)a(1,_,_)=>^0");
        Check.fact(net, 'c', 1, 0, 0);
        Check.fact(net, 'a', 1, 0, 0);
        Check.fact(net, 'b', 1, 0, 0);
        // Numbers: 2 1 0; 2 1; 2; 1 0; 1; 0
        check.due("newness", 432615, order(net));
        // The same fact in two conditions is there twice.
        JoinNet twice = Check.withRules("0,0,100:a(_,_,_)b(_,_,_)=>^0", "0,0,100:b(_,_,_)b(_,_,_)=>^0");
        Check.fact(twice, 'a', 1, 0, 0);
        Check.fact(twice, 'b', 1, 0, 0);
        check.due("twice", 21, order(twice));
    }

    private static void agendaBySpecialness() {
        JoinNet net = Check.withRules("0,0,100:a(_,_,_)=>^0", "0,0,100:a(x,_,_)=>^0", "0,0,100:a(<9,_,1)<5=>^0",
                "0,0,100:a(1,_,_)!b(1,_,_)=>^0", "0,0,100:a(x,y,z)*b(x,_,_)b(_,x,y)<9=>^0",
                "0,0,100:a(_,_,_)$t:b(@,1,_)!b(_,_,2)?a(_,1,_)=>^0");
        Check.fact(net, 'a', 1, 1, 1);
        // Slots and suffixes: 0; 1; 3; 2; 7; 4
        check.due("specialness", 563421, order(net));
        JoinNet times = Check.withRules("0,0,100:a(_,_,_)b(_,_,_)=>^0", "0,0,100:a(_,_,_)b(_,_,_)/1=>^0");
        Check.fact(times, 'a', 1, 1, 1);
        times.pass(1);
        Check.fact(times, 'b', 1, 1, 1);
        check.due("specialness of /", 21, order(times));
        JoinNet ages = Check.withRules("0,0,100:a(_,_,_)=>^0", "0,0,100:a(_,_,_)<5=>^0");
        Check.fact(ages, 'a', 1, 1, 1);
        check.due("specialness of <", 21, order(ages));
    }

    private static void agendaByRulesAndFacts() {
        JoinNet net = Check.withRules("0,0,100:c(_,_,_)=>^0", "0,0,100:b(_,_,_)=>^0", "0,0,100:a(_,_,_)b(_,_,_)=>^0");
        net.dropRule(0);
        // The new rule takes the room of the dropped one, but its number is greater.
        check.due("number", 3, Check.rule(net, "0,0,100:b(_,_,_)a(_,_,_)=>^0"));
        Check.fact(net, 'a', 0, 0, 0);
        Check.fact(net, 'b', 0, 0, 0);
        check.due("rules", 342, order(net));
        JoinNet facts = Check.withRules("0,0,100:a(_,_,_)a(_,_,_)a(_,_,_)=>^0");
        for (int i = 0; i < 3; i++) {
            Check.fact(facts, 'a', i, 0, 0);
        }
        facts.drop(1);
        // The new one takes the room of the dropped one, but its number is greater.
        Check.fact(facts, 'a', 4, 0, 0);
        int[] due = {333, 233, 323, 332, 33, 303, 330, 223, 232, 322, 23, 32, 203, 230, 302, 320, 3, 30, 300, 222};
        for (int match : due) {
            long got = 100 * facts.next(1) + 10 * facts.next(2) + facts.next(3);
            check.due("facts, those of the first condition first", match, got);
            facts.fire();
        }
    }

    private static void openAgain() {
        JoinNet net = Check.withRules("0,0,100:a(x,_,_)!b(x,_,_)=>^0");
        Check.fact(net, 'a', 1, 0, 0);
        check.due("fires", 0, net.fire());
        check.due("fired", NONE, net.fire());
        int b = Check.fact(net, 'b', 1, 0, 0);
        check.due("does not hold", 0, net.matches());
        net.drop(b);
        check.due("holds again, and is open", 1, net.agenda());
        check.due("fires again", 0, net.fire());
        net.drop(0);
        Check.fact(net, 'a', 1, 0, 0);
        check.due("another fact, another match", 1, net.agenda());
        // What comes ends matches also if it gets the room of a fact that went.
        JoinNet room = Check.withRules("0,0,100:a(x,_,_)!b(x,_,_)=>+b(x,0,0)");
        Check.fact(room, 'h', 1, 0, 0);
        Check.fact(room, 'a', 1, 0, 0);
        room.drop(0);
        room.fire();
        room.drop(2);
        check.due("open again", 1, room.agenda());
        // A match that ends and comes again during its own firing is open.
        JoinNet own = Check.withRules("0,0,100:a(x,_,_)!b(x,_,_)=>+b(x,0,0)", "1,0,100:b(_,_,_)=>-1");
        Check.fact(own, 'a', 1, 0, 0);
        check.due("run", 2, own.run(10));
        check.due("open again", 1, own.agenda());
    }

    private static void fire() {
        JoinNet net = Check.withRules("0,0,100:a(x,y,_)=>+b(x,y,3)+c(y,x,-1)", "1,0,100:b(x,_,_)c(_,x,_)=>-1-2-1");
        check.due("17 none", NONE, net.fire());
        Check.fact(net, 'a', 1, 2, 0);
        check.due("17 the rule", 0, net.fire());
        check.isTrue("17 b", Check.has(net, 'b', 1, 2, 3));
        check.isTrue("17 c", Check.has(net, 'c', 2, 1, -1));
        check.due("17 in their order", 1, net.fact(1, 0));
        check.due("17 the other rule", 1, net.fire());
        check.due("17 let go", 1, net.facts());
        check.due("17 none", NONE, net.fire());
        net.pass(3);
        Check.fact(net, 'a', 5, 5, 5);
        net.fire();
        check.due("17 time of what is added", 3, net.fact(net.factAt(2), 5));
    }

    private static int reckoned(String expression) {
        JoinNet net = new JoinNet();
        net.row(0, 0, 9, 0, 9, 4, 0);
        net.row(0, 2, 2, 2, 2, 5, 0);
        net.row(1, 0, 3, 0, 9, -99, 0);
        net.policy(1, JoinNet.SUM);
        net.row(1, 0, 9, 0, 9, -99, 0);
        Check.rule(net, "0,0,100:a(x,y,_)$t:a(@,_,_)=>+b(" + expression + ",0,0)");
        Check.fact(net, 'a', 7, -3, 0);
        net.fire();
        return net.fact(1, 1);
    }

    private static void expressions() {
        check.due("x", 7, reckoned("x"));
        check.due("INT", -12, reckoned("-012"));
        check.due("from the left", 15, reckoned("1+2*5"));
        check.due("from the left", -14, reckoned("y-4*2"));
        check.due("minus minus", 10, reckoned("x--3"));
        check.due("the sum", 14, reckoned("t+x"));
        check.due("nearest", 999, reckoned("999+999"));
        check.due("nearest, each step", 0, reckoned("999+999-999"));
        check.due("nearest", -999, reckoned("500*-999"));
        check.due("nearest, each step", -998, reckoned("-999-5+1"));
        check.due("T", 4, reckoned("T0(x,0)"));
        check.due("T of none is 0", 0, reckoned("T0(y,0)"));
        check.due("T of two by ONE is 0", 1, reckoned("T0(2,2)+1"));
        check.due("T of the other table", -198, reckoned("T1(3,9)"));
        check.due("T in T", 8, reckoned("T0(T0(1,1)-2,T0(0,0)-1)*2"));
        JoinNet net = Check.withRules("0,0,100:a(x,_,_)=>~1.1=x*2+b(x,x,x)");
        Check.fact(net, 'a', 4, 0, 0);
        net.fire();
        check.isTrue("an expression ends ahead of a +", Check.has(net, 'a', 4, 8, 0) && Check.has(net, 'b', 4, 4, 4));
        JoinNet minus = Check.withRules("0,0,100:a(x,_,_)b(_,_,_)=>~1.1=x-1-2");
        Check.fact(minus, 'a', 4, 0, 0);
        Check.fact(minus, 'b', 4, 0, 0);
        minus.fire();
        check.isTrue("an expression is as long as it can be", Check.has(minus, 'a', 4, 1, 0) && minus.facts() == 2);
    }

    private static void letGoAndChange() {
        JoinNet net = Check.withRules("0,0,50:a(x,y,_)b(x,_,_)=>-2~1.1=y+1~1.2=9", "0,0,100:c(x,_,_)=>-1~1.0=5^0",
                "0,0,100:d(x,_,_)d(#x,_,_)=>~1.0=7~2.0=7");
        net.tell(0, 1, 2, 3, 60, 4);
        net.tell(1, 1, 2, 3, 40, 4);
        net.pass(1);
        net.fire();
        check.due("~ in its place", 1, net.facts());
        int number = net.factAt(0);
        int[] due = {0, 1, 3, 3, 60, 1, 1, 0};
        for (int what = 0; what < 8; what++) {
            check.due("~ " + what, due[what], net.fact(number, what));
        }
        check.due("a new number", 2, number);
        net.pass(50);
        check.due("without a life", 1, net.facts());
        Check.fact(net, 'c', 1, 0, 0);
        net.fire();
        check.due("~ of one that is gone does nothing", 1, net.facts());
        net.tell(3, 1, 0, 0, 50, NONE);
        net.tell(3, 2, 0, 0, 50, NONE);
        net.fire();
        check.due("~ to one that is there", 2, net.facts());
        check.due("combined", 75, net.fact(net.factAt(1), 4));
        // The grade of ~ is its own one, of all its reasons; a slot may keep its value.
        JoinNet belief = Check.withRules("0,0,50:a(x,_,_)=>&b(x,0,0)", "1,0,7:b(x,_,_)=>~1.0=x");
        belief.tell(0, 1, 0, 0, 80, NONE);
        belief.fire();
        belief.tell(1, 1, 0, 0, 50, NONE);
        belief.fire();
        check.due("~ plain", 1, belief.fact(2, 6));
        check.due("~ no supports", 0, belief.fact(2, 7));
        check.due("~ its grade", 70, belief.fact(2, 4));
        JoinNet nothing = Check.withRules("0,0,100:a(x,_,_)=>~1.0=5");
        nothing.tell(0, 1, 0, 0, 0, NONE);
        nothing.fire();
        check.isTrue("~ of grade 0", Check.has(nothing, 'a', 5, 0, 0) && nothing.fact(1, 4) == 0);
    }

    private static void fullOfFacts() {
        JoinNet net = Check.withRules("0,0,100:a(19,_,_)=>+b(1,0,0)&b(2,0,0)~1.0=0+a(18,0,0)");
        for (int i = 0; i < 20; i++) {
            Check.fact(net, 'a', i, 0, 0);
        }
        net.tell(0, 18, 0, 0, 0, NONE);
        net.fire();
        check.due("a new one is not added", 19, net.facts());
        check.isTrue("one that is there is", !Check.has(net, 'a', 19, 0, 0) && Check.has(net, 'a', 18, 0, 0));
        JoinNet change = Check.withRules("0,0,100:a(19,_,_)=>~1.0=20+b(1,0,0)");
        for (int i = 0; i < 20; i++) {
            Check.fact(change, 'a', i, 0, 0);
        }
        change.fire();
        check.isTrue("~ has the room of what it lets go", Check.has(change, 'a', 20, 0, 0) && change.facts() == 20);
    }

    private static void beliefs() {
        JoinNet net = Check.withRules("0,0,100:a(x,_,_)!b(x,_,_)=>&c(x,0,0)&c(x,0,0)&d(0,0,0)");
        int one = Check.fact(net, 'a', 1, 0, 0);
        Check.fact(net, 'a', 2, 0, 0);
        net.run(5);
        check.due("a support of the same match does not come again", 1, net.fact(net.factAt(2), 7));
        check.isTrue("d by two", Check.has(net, 'd', 0, 0, 0));
        int d = net.factAt(3);
        check.due("d by two", 2, net.fact(d, 7));
        Check.fact(net, 'b', 2, 0, 0);
        check.due("c 2 goes", 5, net.facts());
        check.due("d by one", 1, net.fact(d, 7));
        net.drop(one);
        check.due("c 1 and d go", 2, net.facts());
        check.isTrue("no c", !Check.has(net, 'c', 1, 0, 0) && !Check.has(net, 'd', 0, 0, 0));
        // A chain that goes in one call.
        JoinNet chain = Check.withRules("0,0,100:a(x,_,_)=>&b(x,0,0)", "0,0,100:b(x,_,_)=>&c(x,0,0)",
                "0,0,100:c(x,_,_)=>&d(x,0,0)+e(x,0,0)");
        Check.fact(chain, 'a', 1, 0, 0);
        chain.run(9);
        check.due("chain", 5, chain.facts());
        check.due("all but the plain one", 1, chain.drop(0));
        check.isTrue("e", Check.has(chain, 'e', 1, 0, 0));
    }

    private static void beliefsThatEndWhileFiring() {
        JoinNet gone = Check.withRules("0,0,100:a(x,_,_)=>-1&b(x,0,0)+a(x,0,0)&c(x,0,0)");
        Check.fact(gone, 'a', 1, 0, 0);
        gone.fire();
        check.due("& of a match that holds no more does nothing", 1, gone.facts());
        check.due("a came anew", 1, gone.factAt(0));
        JoinNet self = Check.withRules("0,0,100:a(x,_,_)!b(x,_,_)=>&b(x,0,0)");
        Check.fact(self, 'h', 1, 0, 0);
        Check.fact(self, 'a', 1, 0, 0);
        self.fire();
        check.due("a belief that ends its own match goes", 2, self.facts());
        check.due("and the match is open again", 1, self.agenda());
        // Now the belief gets the room of the fact that was the first.
        self.drop(0);
        self.fire();
        check.due("a belief that ends its own match goes", 1, self.facts());
        check.due("run", 1, self.run(50));
        check.due("loop", 1, self.loop());
        // The match holds again when the & comes, so it is its support.
        JoinNet back = Check.withRules("0,0,100:a(x,_,_)d(_,_,_)!b(x,_,_)=>&b(x,0,0)&c(x,0,0)");
        Check.fact(back, 'a', 1, 0, 0);
        Check.fact(back, 'd', 1, 0, 0);
        back.fire();
        check.isTrue("c", Check.has(back, 'c', 1, 0, 0) && back.facts() == 3);
        check.due("open", 1, back.agenda());
    }

    private static void rings() {
        JoinNet net = Check.withRules("0,0,100:a(x,_,_)=>&b(x,0,0)", "0,0,100:b(x,_,_)=>&c(x,0,0)",
                "0,0,100:c(x,_,_)=>&b(x,0,0)");
        Check.fact(net, 'a', 1, 0, 0);
        net.run(9);
        check.due("b by two", 2, net.fact(1, 7));
        check.due("the ring does not hold itself", 0, net.drop(0));
        // A ring with another reason stays.
        Check.fact(net, 'a', 2, 0, 0);
        net.run(9);
        int a = net.factAt(0);
        net.tell(2, 2, 0, 0, 10, NONE);
        check.due("c is plain", 2, net.drop(a));
        check.due("b by c", 1, net.fact(net.factAt(0), 7));
        check.due("c by b, and plain", 1, net.fact(net.factAt(1), 7));
    }

    /** Of a ring of b and c that goes, b has the lower number: "each b has a c" holds on, "each c has a b" does not. */
    private static void lowestNumberFirst() {
        for (int drops = 0; drops < 3; drops++) {
            JoinNet net = Check.withRules("0,0,100:a(x,_,_)=>&b(x,0,0)", "1,0,100:b(x,_,_)=>&c(x,0,0)",
                    "1,0,100:c(x,_,_)=>&b(x,0,0)", "2,1,100:h(_,_,_)*b(x,_,_)c(x,_,_)=>^1",
                    "2,1,100:h(_,_,_)*c(x,_,_)b(x,_,_)=>^1");
            Check.fact(net, 'g', 1, 0, 0);
            Check.fact(net, 'h', 1, 0, 0);
            Check.fact(net, 'a', 1, 0, 0);
            // The room of g is used again: by b, or by c, or not at all.
            if (drops == 0) {
                net.drop(0);
            }
            net.fire();
            if (drops == 1) {
                net.drop(0);
            }
            net.run(2);
            net.focus(1);
            net.fire();
            net.fire();
            check.due("both fired", 0, net.agenda());
            net.drop(2);
            check.due("ring is gone", drops < 2 ? 1 : 2, net.facts());
            check.due("one is open again", 1, net.agenda());
            check.due("each c has a b", 4, net.next(0));
        }
        // 19 beliefs go in one call.
        JoinNet many = new JoinNet();
        for (int i = 0; i < 5; i++) {
            String three = "&b(x,0,1)&b(x,0,2)&b(x,0,3)&b(x,0,4)".replace("0,", i + ",");
            Check.rule(many, "0,0,100:a(x,_,_)=>" + (i < 4 ? three : three.substring(0, 27)));
        }
        Check.fact(many, 'a', 1, 0, 0);
        many.run(5);
        check.due("19 beliefs", 20, many.facts());
        check.due("all of them go", 0, many.drop(0));
    }

    private static void manyReasons() {
        JoinNet net = Check.withRules("0,0,1:a(_,_,_)a(_,_,_)=>&h(0,0,0)");
        for (int i = 0; i < 19; i++) {
            Check.fact(net, 'a', i, 0, 0);
        }
        for (int i = 0; i < 150; i++) {
            net.fire();
        }
        check.due("supports", 150, net.fact(19, 7));
        check.due("open", 361 - 150, net.agenda());
        check.due("the first reason", 18, net.why(19, 0, 1));
        net.takeBack(6);
        check.due("supports", 144, net.fact(19, 7));
        check.isTrue("would be", net.wouldBe(9, 7, 0, 0, 0));
        check.due("supports", 144, net.fact(19, 7));
        net.drop(18);
        check.due("supports of the others", 144 - 37, net.fact(19, 7));
        check.due("matches of the others", 324, net.matches());
        check.due("open ones of the others", 361 - 37 - 107, net.agenda());
    }

    private static void grades() {
        JoinNet net = Check.withRules("0,0,33:a(x,_,_)b(x,_,_)!c(9,_,_)=>+d(x,0,0)&e(x,0,0)+d(x,0,0)");
        net.tell(0, 1, 0, 0, 80, NONE);
        net.tell(1, 1, 0, 0, 70, NONE);
        net.tell(2, 1, 0, 0, 10, NONE);
        net.fire();
        // 70 * 33 / 100 = 23.1; 23 + 23 - 5.29 = 40.71
        check.due("+ twice", 40, net.fact(3, 4));
        check.due("&", 23, net.fact(4, 4));
        // As they were: what the firing itself does to a grade does not count.
        JoinNet own = Check.withRules("0,0,100:a(x,_,_)=>+a(x,0,0)+b(x,0,0)");
        own.tell(0, 1, 0, 0, 50, NONE);
        own.fire();
        check.due("a", 75, own.fact(0, 4));
        check.due("b", 50, own.fact(1, 4));
        JoinNet gone = Check.withRules("0,0,100:a(x,_,_)=>-1+b(x,0,0)");
        gone.tell(0, 1, 0, 0, 50, NONE);
        gone.fire();
        check.due("of one that went", 50, gone.fact(1, 4));
    }

    private static void run() {
        JoinNet net = Check.withRules("0,0,100:a(x,_,_)a(>x,_,_)=>^0", "0,0,100:a(x,_,_)=>+b(x,0,0)");
        check.badArgument("18 0", () -> net.run(0));
        check.badArgument("18 51", () -> net.run(51));
        check.badArgument("18 -1", () -> net.run(-1));
        check.due("18 none", 0, net.run(1));
        for (int i = 0; i < 3; i++) {
            Check.fact(net, 'a', i, 0, 0);
        }
        check.due("18 at most", 2, net.run(2));
        check.due("18 the rest", 4, net.run(50));
        check.due("18 none left", 0, net.run(50));
        check.due("18 no loop", 0, net.loop());
        JoinNet endless = Check.withRules("0,0,100:a(x,_,_)=>~1.0=x+1");
        Check.fact(endless, 'a', 0, 0, 0);
        check.due("18 50", 50, endless.run(50));
        check.due("18 50 more", 50, endless.run(50));
        check.isTrue("18 100", Check.has(endless, 'a', 100, 0, 0));
        // After so many firings the focus is not looked at again.
        JoinNet focus = Check.withRules("0,1,100:a(_,_,_)=>+b(0,0,0)");
        Check.fact(focus, 'a', 0, 0, 0);
        focus.focus(1);
        check.due("18 one", 1, focus.run(1));
        check.due("18 the focus stays", 3, focus.focus(1));
    }

    private static void loop() {
        JoinNet net = Check.withRules("0,0,100:a(3,_,_)=>~1.0=1", "0,0,100:a(<3,_,_)=>-1",
                "1,0,100:a(1,_,_)=>~1.0=2", "1,0,100:a(2,_,_)=>~1.0=3", "1,0,100:a(0,_,_)=>~1.0=1");
        check.due("19 no run yet", 0, net.loop());
        Check.fact(net, 'a', 0, 0, 0);
        check.due("19 0 1 2 3 1", 4, net.run(50));
        check.due("19 loop", 3, net.loop());
        net.fire();
        net.wouldBe(1, 0, 0, 0, 0);
        check.badArgument("19 bad run", () -> net.run(0));
        check.due("19 still", 3, net.loop());
        check.due("19 at most", 2, net.run(2));
        check.due("19 none in these", 0, net.loop());
        check.due("19 with the beginning", 3, net.run(3));
        check.due("19 loop", 3, net.loop());
        check.due("19 nothing changes", 1, loopOf("a(_,_,_)=>+a(0,0,0)"));
        check.due("19 the focus counts", 0, loopOf("a(_,_,_)=>^1"));
        check.due("19 numbers do not count", 1, loopOf("a(_,_,_)=>~1.0=0"));
        // All of 20 facts count.
        for (char kind : new char[] {'a', 'h'}) {
            JoinNet full = Check.withRules("0,0,100:" + kind + "(x,_,_)=>~1.0=x+1");
            for (int i = 0; i < 19; i++) {
                Check.fact(full, 'c', i, 0, 0);
            }
            Check.fact(full, kind, 0, 0, 0);
            check.due("19 no loop", 50, full.run(50));
        }
        // The focus at the beginning is that ahead of the firing, which takes a unit away here.
        JoinNet focus = Check.withRules("0,0,100:a(_,_,_)=>+a(0,0,0)");
        Check.fact(focus, 'a', 0, 0, 0);
        focus.focus(1);
        check.due("19 run", 1, focus.run(5));
        check.due("19 another focus", 0, focus.loop());
        focus.drop(0);
        focus.run(1);
        check.due("19 a run without a loop", 0, focus.loop());
    }

    private static int loopOf(String rule) {
        JoinNet net = Check.withRules("0,0,100:" + rule);
        Check.fact(net, 'a', 0, 0, 0);
        check.due("19 firings", 1, net.run(50));
        return net.loop();
    }

    private static void wouldBe() {
        JoinNet net = Check.withRules("0,0,100:a(x,_,_)=>~1.0=x+1^1&b(x,0,0)", "0,1,100:a(_,_,_)=>+c(1,2,3)");
        check.badArgument("20 most 0", () -> net.wouldBe(0, 0, 0, 0, 0));
        check.badArgument("20 most 51", () -> net.wouldBe(51, 0, 0, 0, 0));
        check.badArgument("20 kind", () -> net.wouldBe(1, 8, 0, 0, 0));
        check.badArgument("20 kind", () -> net.wouldBe(1, -1, 0, 0, 0));
        for (int wrong : new int[] {-1000, 1000}) {
            check.badArgument("20 one", () -> net.wouldBe(1, 0, wrong, 0, 0));
            check.badArgument("20 two", () -> net.wouldBe(1, 0, 0, wrong, 0));
            check.badArgument("20 three", () -> net.wouldBe(1, 0, 0, 0, wrong));
        }
        Check.fact(net, 'a', 1, 0, 0);
        net.focus(2);
        check.isTrue("20 not after 1", !net.wouldBe(1, 2, 1, 2, 3));
        check.isTrue("20 after 2", net.wouldBe(2, 2, 1, 2, 3));
        check.isTrue("20 gone", !net.wouldBe(50, 0, 1, 0, 0));
        check.due("20 facts", 1, net.facts());
        check.due("20 number", 0, net.factAt(0));
        check.due("20 focus", 3, net.focus(2));
        check.due("20 open", 0, net.next(0));
        check.due("20 no loop", 0, net.loop());
        check.badState("20 nothing to take back", () -> net.takeBack(1));
        check.due("20 the next number", 1, Check.fact(net, 'h', 0, 0, 0));
        net.fire();
        check.isTrue("20 what was fired", net.wouldBe(1, 2, 1, 2, 3));
        check.due("20 one to take back", 0, net.takeBack(1));
        JoinNet endless = Check.withRules("0,0,100:a(x,_,_)=>~1.0=x+1");
        Check.fact(endless, 'a', 0, 0, 0);
        check.isTrue("20 50 times", endless.wouldBe(50, 0, 50, 0, 0) && !endless.wouldBe(49, 0, 50, 0, 0));
        // It is run as run does it, up to a loop.
        JoinNet loop = Check.withRules("0,0,100:a(1,_,_)=>~1.0=2", "0,0,100:a(2,_,_)=>~1.0=1");
        Check.fact(loop, 'a', 1, 0, 0);
        check.isTrue("20 a loop ends it", loop.wouldBe(3, 0, 1, 0, 0) && !loop.wouldBe(3, 0, 2, 0, 0));
        check.due("20 loop stays 0", 0, loop.loop());
    }

    private static void takeBack() {
        JoinNet net = Check.withRules("0,0,100:a(x,_,_)=>~1.0=x+1^3&b(x,0,0)");
        check.badArgument("21 0", () -> net.takeBack(0));
        check.badArgument("21 7", () -> net.takeBack(7));
        check.badState("21 none", () -> net.takeBack(1));
        Check.fact(net, 'a', 0, 0, 0);
        net.run(4);
        net.pass(2);
        net.tell(7, 1, 2, 3, 100, 1);
        check.badState("21 not so many", () -> net.takeBack(5));
        check.badArgument("21 argument first", () -> net.takeBack(7));
        check.due("21 left", 3, net.takeBack(1));
        check.isTrue("21 a 3", Check.has(net, 'a', 3, 0, 0) && net.facts() == 1);
        check.due("21 time", 1, net.pass(1));
        check.due("21 focus", 3, net.focus(3));
        check.due("21 open", 0, net.next(0));
        check.due("21 left", 1, net.takeBack(2));
        check.isTrue("21 a 1", Check.has(net, 'a', 1, 0, 0));
        check.due("21 numbers", 2, Check.fact(net, 'g', 0, 0, 0));
        check.due("21 time", 1, net.pass(1));
        check.due("21 none left", 0, net.takeBack(1));
        check.badState("21 none", () -> net.takeBack(1));
        check.due("21 as at first", 0, net.factAt(0));
        check.due("21 as at first", 2, net.focus(0));
        // The latest 6.
        net.run(9);
        check.due("21 the latest 6", 0, net.takeBack(6));
        check.isTrue("21 a 3", Check.has(net, 'a', 3, 0, 0));
        // The tape, goal rules and tables stay as they are.
        net.fire();
        Check.feed(net, "xx");
        net.row(0, 0, 0, 0, 0, 7, 0);
        net.takeBack(1);
        check.due("21 tape", 3, net.feed('x', 1));
        check.due("21 table", 7, net.outcome(0, 0, 0));
        takeBackIsForgotten();
    }

    private static void takeBackIsForgotten() {
        JoinNet net = Check.withRules("0,0,100:a(x,_,_)=>&b(x,0,0)");
        Check.fact(net, 'a', 0, 0, 0);
        net.fire();
        check.badState("21 bad text", net::rule);
        check.due("21 not by a bad text", 0, net.takeBack(1));
        check.due("21 its belief is gone", 1, net.facts());
        net.fire();
        Check.goal(net, "a(1,1,1):a(2,2,2)");
        check.due("21 not by a goal rule", 0, net.takeBack(1));
        net.fire();
        Check.rule(net, "0,1,100:a(x,_,_)=>^0");
        check.badState("21 by a rule", () -> net.takeBack(1));
        check.due("21 what was fired stays fired", 0, net.agenda());
        net.drop(0);
        Check.fact(net, 'a', 0, 0, 0);
        net.fire();
        net.dropRule(1);
        check.badState("21 by a rule that is dropped", () -> net.takeBack(1));
        check.due("21 fired and believed stays so", 2, net.facts());
        check.due("21 fired", 0, net.agenda());
    }

    private static void why() {
        JoinNet net = Check.withRules("0,0,100:a(x,_,_)=>&h(0,0,0)", "0,0,100:a(x,_,_)b(_,_,_)=>&h(0,0,0)",
                "0,0,100:a(x,_,_)b(_,_,_)a(_,_,_)=>&h(0,0,0)");
        Check.fact(net, 'b', 1, 0, 0);
        Check.fact(net, 'a', 1, 0, 0);
        check.badIndex("22 no support", () -> net.why(0, 0, 0));
        net.run(1);
        net.fire();
        net.fire();
        int[][] due = {{2, 1, 0, 1}, {1, 1, 0, NONE}, {0, 1, NONE, NONE}};
        for (int support = 0; support < 3; support++) {
            for (int what = 0; what < 4; what++) {
                check.due("22 why " + support + " " + what, due[support][what], net.why(2, support, what));
            }
        }
        check.badIndex("22 no support 3", () -> net.why(2, 3, 0));
        check.badIndex("22 no support -1", () -> net.why(2, -1, 0));
        check.badIndex("22 no fact", () -> net.why(3, 0, 0));
        check.badIndex("22 no fact", () -> net.why(-1, 0, 0));
        check.badArgument("22 what 4", () -> net.why(2, 0, 4));
        check.badArgument("22 what -1", () -> net.why(2, 2, -1));
        check.badIndex("22 index first", () -> net.why(2, 3, 4));
        net.drop(0);
        check.due("22 one is left", 0, net.why(2, 0, 0));
        check.badIndex("22 one is left", () -> net.why(2, 1, 0));
    }
}
