/** Each argument of each call from both sides, each exception that is promised, and which of several is thrown. */
public final class BoundsTest {
    private static final int NONE = JoinNet.NONE;
    private static final Check check = new Check("BoundsTest");

    public static void main(String[] args) {
        tape();
        tell();
        factsAndTime();
        rules();
        firing();
        wouldBe();
        takeBack();
        why();
        goals();
        tables();
        rows();
        whatWent();
        firstOfSeveral();
        check.end();
    }

    private static JoinNet threeFacts() {
        return Check.withFacts(3);
    }

    private static JoinNet threeRules() {
        return Check.withRules("0,0,100:a(_,_,_)=>^0", "0,1,100:a(_,_,_)=>^0", "0,2,100:a(_,_,_)=>^0");
    }

    /** An object with a tape of so many bytes. */
    private static JoinNet withTape(int bytes) {
        JoinNet net = new JoinNet();
        for (int i = 0; i < bytes; i++) {
            net.feed('x', 1);
        }
        return net;
    }

    /** An object that has fired so often. */
    static JoinNet fired(int often) {
        JoinNet net = Check.withRules("0,0,100:a(x,_,_)=>~1.0=x+1");
        Check.fact(net, 'a', 0, 0, 0);
        for (int i = 0; i < often; i++) {
            net.fire();
        }
        return net;
    }

    /** An object whose fact 2 has two supports, while facts 0 and 1 have none. */
    private static JoinNet believed() {
        JoinNet net = Check.withRules("0,0,100:a(_,_,_)=>&b(0,0,0)");
        Check.fact(net, 'a', 0, 0, 0);
        Check.fact(net, 'a', 1, 0, 0);
        net.run(2);
        return net;
    }

    /** An object from whose facts, 0 to many - 1, the square of many follows, and themselves. */
    static JoinNet following(int many) {
        JoinNet net = Check.withFacts(many);
        Check.goal(net, "b(x,y,0):a(x,_,_)a(y,_,_)");
        return net;
    }

    private static void tape() {
        check.bounds("2 n", Check.ARGUMENT, 1, 8, JoinNet::new, (net, n) -> net.feed(0, n));
        for (int n = 1; n <= 8; n++) {
            int bytes = n;
            JoinNet room = withTape(160 - n);
            check.due("2 up to 160 by " + n, 160, room.feed(0, n));
            JoinNet none = withTape(161 - n);
            check.badState("2 more than 160 by " + n, () -> none.feed(0, bytes));
            check.due("2 the tape is as it was", 160, n == 1 ? 160 : none.feed(0, n - 1));
        }
    }

    private static void tell() {
        check.bounds("3 kind", Check.ARGUMENT, 0, 7, JoinNet::new, (net, v) -> net.tell(v, 0, 0, 0, 0, NONE));
        check.bounds("3 one", Check.ARGUMENT, -999, 999, JoinNet::new, (net, v) -> net.tell(0, v, 0, 0, 0, NONE));
        check.bounds("3 two", Check.ARGUMENT, -999, 999, JoinNet::new, (net, v) -> net.tell(0, 0, v, 0, 0, NONE));
        check.bounds("3 three", Check.ARGUMENT, -999, 999, JoinNet::new, (net, v) -> net.tell(0, 0, 0, v, 0, NONE));
        check.bounds("3 grade", Check.ARGUMENT, 0, 100, JoinNet::new, (net, v) -> net.tell(0, 0, 0, 0, v, NONE));
        check.bounds("3 life", Check.ARGUMENT, 1, 100, JoinNet::new, (net, v) -> net.tell(0, 0, 0, 0, 0, v));
        check.bounds("3 no end", Check.ARGUMENT, NONE, NONE, JoinNet::new, (net, v) -> net.tell(0, 0, 0, 0, 0, v));
        check.isFine("3 the 20th", () -> Check.withFacts(19).tell(0, 19, 0, 0, 0, NONE));
        check.badState("3 the 21st", () -> Check.withFacts(20).tell(0, 20, 0, 0, 0, NONE));
        check.isFine("3 not new", () -> Check.withFacts(20).tell(0, 19, 0, 0, 0, NONE));
    }

    private static void factsAndTime() {
        check.bounds("4 fact", Check.INDEX, 0, 2, BoundsTest::threeFacts, (net, v) -> net.drop(v));
        check.badIndex("4 none is there", () -> new JoinNet().drop(0));
        check.bounds("5 ticks", Check.ARGUMENT, 1, 100, JoinNet::new, (net, v) -> net.pass(v));
        check.bounds("7 place", Check.INDEX, 0, 2, BoundsTest::threeFacts, (net, v) -> net.factAt(v));
        check.badIndex("7 none is there", () -> new JoinNet().factAt(0));
        check.bounds("7 place of 20", Check.INDEX, 0, 19, () -> Check.withFacts(20), (net, v) -> net.factAt(v));
        check.bounds("8 fact", Check.INDEX, 0, 2, BoundsTest::threeFacts, (net, v) -> net.fact(v, 0));
        check.bounds("8 what", Check.ARGUMENT, 0, 7, BoundsTest::threeFacts, (net, v) -> net.fact(2, v));
    }

    private static void rules() {
        check.bounds("10 rule", Check.INDEX, 0, 2, BoundsTest::threeRules, (net, v) -> net.dropRule(v));
        check.badIndex("10 none is there", () -> new JoinNet().dropRule(0));
        check.bounds("12 rule", Check.INDEX, 0, 2, BoundsTest::threeRules, (net, v) -> net.met(v));
        check.badIndex("12 none is there", () -> new JoinNet().met(0));
        JoinNet net = threeRules();
        for (int i = 3; i < 10; i++) {
            check.due("9 the tenth", i, Check.rule(net, "0,0,100:b(_,_,_)=>^0"));
        }
        Check.feed(net, "0,0,100:b(_,_,_)=>^0");
        check.badState("9 the eleventh", net::rule);
        check.due("12 the last one", 0, net.met(9));
        check.badIndex("12 no eleventh", () -> net.met(10));
    }

    private static void firing() {
        check.bounds("14 unit", Check.ARGUMENT, 0, 3, JoinNet::new, (net, v) -> net.focus(v));
        JoinNet net = new JoinNet();
        for (int i = 2; i <= 8; i++) {
            check.due("14 up to 8", i, net.focus(3));
        }
        check.badState("14 more than 8", () -> net.focus(3));
        check.bounds("16 what", Check.ARGUMENT, 0, 3, JoinNet::new, (other, v) -> other.next(v));
        check.bounds("16 what, with a match", Check.ARGUMENT, 0, 3, () -> fired(0), (other, v) -> other.next(v));
        check.bounds("18 most", Check.ARGUMENT, 1, 50, () -> fired(0), (other, v) -> other.run(v));
        for (int most : new int[] {1, 2, 49, 50}) {
            check.due("18 at most so often", most, fired(0).run(most));
        }
    }

    private static void wouldBe() {
        Check.Maker maker = () -> fired(0);
        check.bounds("20 most", Check.ARGUMENT, 1, 50, maker, (net, v) -> net.wouldBe(v, 0, 0, 0, 0));
        check.bounds("20 kind", Check.ARGUMENT, 0, 7, maker, (net, v) -> net.wouldBe(1, v, 0, 0, 0));
        check.bounds("20 one", Check.ARGUMENT, -999, 999, maker, (net, v) -> net.wouldBe(1, 0, v, 0, 0));
        check.bounds("20 two", Check.ARGUMENT, -999, 999, maker, (net, v) -> net.wouldBe(1, 0, 0, v, 0));
        check.bounds("20 three", Check.ARGUMENT, -999, 999, maker, (net, v) -> net.wouldBe(1, 0, 0, 0, v));
    }

    private static void takeBack() {
        for (int often : new int[] {6, 7, 20}) {
            check.bounds("21 many", Check.ARGUMENT, 1, 6, () -> fired(often), (net, v) -> net.takeBack(v));
        }
        for (int often = 0; often <= 5; often++) {
            int most = often;
            if (often > 0) {
                check.due("21 all of them", 0, fired(often).takeBack(often));
            }
            for (int many = often + 1; many <= 6; many++) {
                int tooMany = many;
                check.badState("21 not so many", () -> fired(most).takeBack(tooMany));
            }
        }
    }

    private static void why() {
        check.bounds("22 fact", Check.INDEX, 2, 2, BoundsTest::believed, (net, v) -> net.why(v, 0, 0));
        check.bounds("22 support", Check.INDEX, 0, 1, BoundsTest::believed, (net, v) -> net.why(2, v, 0));
        check.bounds("22 what", Check.ARGUMENT, 0, 3, BoundsTest::believed, (net, v) -> net.why(2, 1, v));
    }

    private static void goals() {
        check.bounds("24 kind", Check.ARGUMENT, 0, 7, () -> following(2), (net, v) -> net.follows(v, 0, 0, 0));
        check.bounds("24 one", Check.ARGUMENT, -999, 999, () -> following(2), (net, v) -> net.follows(0, v, 0, 0));
        check.bounds("24 two", Check.ARGUMENT, -999, 999, () -> following(2), (net, v) -> net.follows(0, 0, v, 0));
        check.bounds("24 three", Check.ARGUMENT, -999, 999, () -> following(2), (net, v) -> net.follows(0, 0, 0, v));
        JoinNet net = new JoinNet();
        for (int i = 1; i <= 6; i++) {
            check.due("23 up to 6", i, Check.goal(net, "a(1,2,3):b(_,_,_)"));
        }
        Check.feed(net, "a(1,2,3):b(_,_,_)");
        check.badState("23 more than 6", net::goal);
        // 11 facts and 121 things; 7 more facts and 11 more things.
        JoinNet edge = following(11);
        Check.goal(edge, "c(x,0,0):a(x,_,_)");
        for (int i = 0; i < 7; i++) {
            Check.fact(edge, 'h', i, 0, 0);
        }
        check.isTrue("24 150 follow", edge.follows(2, 10, 0, 0));
        Check.fact(edge, 'h', 7, 0, 0);
        check.badState("24 151 follow", () -> edge.follows(2, 10, 0, 0));
    }

    private static void tables() {
        check.bounds("25 table", Check.INDEX, 0, 1, JoinNet::new, (net, v) -> net.policy(v, 0));
        check.bounds("25 policy", Check.ARGUMENT, JoinNet.ONE, JoinNet.SUM, JoinNet::new, (net, v) -> net.policy(0, v));
        check.bounds("25 policy", Check.ARGUMENT, JoinNet.ONE, JoinNet.SUM, JoinNet::new, (net, v) -> net.policy(1, v));
        check.bounds("27 table", Check.INDEX, 0, 1, JoinNet::new, (net, v) -> net.outcome(v, 0, 0));
        check.bounds("27 one", Check.ARGUMENT, -999, 999, JoinNet::new, (net, v) -> net.outcome(0, v, 0));
        check.bounds("27 other", Check.ARGUMENT, -999, 999, JoinNet::new, (net, v) -> net.outcome(1, 0, v));
        check.bounds("28 table", Check.INDEX, 0, 1, JoinNet::new, (net, v) -> net.hole(v, false));
        check.bounds("28 table", Check.INDEX, 0, 1, JoinNet::new, (net, v) -> net.hole(v, true));
    }

    private static void rows() {
        check.bounds("26 table", Check.INDEX, 0, 1, JoinNet::new, (net, v) -> net.row(v, 0, 0, 0, 0, 0, 0));
        check.bounds("26 from", Check.ARGUMENT, 0, 9, JoinNet::new, (net, v) -> net.row(0, v, 9, 0, 0, 0, 0));
        check.bounds("26 to", Check.ARGUMENT, 0, 9, JoinNet::new, (net, v) -> net.row(0, 0, v, 0, 0, 0, 0));
        check.bounds("26 to", Check.ARGUMENT, 4, 9, JoinNet::new, (net, v) -> net.row(0, 4, v, 0, 0, 0, 0));
        check.bounds("26 from", Check.ARGUMENT, 0, 4, JoinNet::new, (net, v) -> net.row(0, v, 4, 0, 0, 0, 0));
        check.bounds("26 otherFrom", Check.ARGUMENT, 0, 9, JoinNet::new, (net, v) -> net.row(1, 0, 0, v, 9, 0, 0));
        check.bounds("26 otherTo", Check.ARGUMENT, 0, 9, JoinNet::new, (net, v) -> net.row(1, 0, 0, 0, v, 0, 0));
        check.bounds("26 otherTo", Check.ARGUMENT, 4, 9, JoinNet::new, (net, v) -> net.row(1, 0, 0, 4, v, 0, 0));
        check.bounds("26 otherFrom", Check.ARGUMENT, 0, 4, JoinNet::new, (net, v) -> net.row(1, 0, 0, v, 4, 0, 0));
        check.bounds("26 outcome", Check.ARGUMENT, -99, 99, JoinNet::new, (net, v) -> net.row(0, 0, 0, 0, 0, v, 0));
        check.bounds("26 rank", Check.ARGUMENT, 0, 9, JoinNet::new, (net, v) -> net.row(0, 0, 0, 0, 0, 0, v));
        for (int table = 0; table < 2; table++) {
            int full = table;
            JoinNet net = new JoinNet();
            for (int i = 1; i <= 8; i++) {
                check.due("26 up to 8", i, net.row(table, 0, 9, 0, 9, 0, 0));
            }
            check.badState("26 more than 8", () -> net.row(full, 0, 9, 0, 9, 0, 0));
            check.due("26 the other table", 1, net.row(1 - table, 0, 9, 0, 9, 0, 0));
        }
    }

    /** There is no such fact or rule any more, however it went. */
    private static void whatWent() {
        JoinNet net = Check.withRules("0,0,100:a(_,_,_)=>&c(0,0,0)", "1,0,100:b(_,_,_)=>-1");
        net.tell(0, 0, 0, 0, 100, 1);
        Check.fact(net, 'b', 0, 0, 0);
        Check.fact(net, 'h', 0, 0, 0);
        net.run(2);
        net.drop(2);
        net.pass(1);
        String[] ways = {"by its life", "by a firing", "by drop", "with its reason"};
        for (int i = 0; i < 4; i++) {
            int fact = i;
            check.badIndex("4 went " + ways[i], () -> net.drop(fact));
            check.badIndex("8 went " + ways[i], () -> net.fact(fact, 0));
            check.badIndex("22 went " + ways[i], () -> net.why(fact, 0, 0));
        }
        check.badIndex("7 none is left", () -> net.factAt(0));
        net.dropRule(0);
        check.badIndex("10 it was dropped", () -> net.dropRule(0));
        check.badIndex("12 it was dropped", () -> net.met(0));
        check.isFine("10 the other one", () -> net.dropRule(1));
    }

    private static void firstOfSeveral() {
        check.badArgument("2 argument, then state", () -> withTape(160).feed(0, 0));
        check.badArgument("2 argument, then state", () -> withTape(160).feed(0, 9));
        JoinNet full = Check.withFacts(20);
        check.badArgument("3 argument, then state", () -> full.tell(8, 0, 0, 0, 0, NONE));
        check.badArgument("3 argument, then state", () -> full.tell(0, 1000, 0, 0, 0, NONE));
        check.badArgument("3 argument, then state", () -> full.tell(0, 0, 1000, 0, 0, NONE));
        check.badArgument("3 argument, then state", () -> full.tell(0, 0, 0, 1000, 0, NONE));
        check.badArgument("3 argument, then state", () -> full.tell(1, 0, 0, 0, 101, NONE));
        check.badArgument("3 argument, then state", () -> full.tell(1, 0, 0, 0, 0, 0));
        check.badIndex("8 fact, then what", () -> full.fact(20, 8));
        check.badIndex("8 fact, then what", () -> full.fact(-1, -1));
        JoinNet focused = new JoinNet();
        for (int i = 0; i < 7; i++) {
            focused.focus(1);
        }
        check.badArgument("14 argument, then state", () -> focused.focus(4));
        check.badArgument("14 argument, then state", () -> focused.focus(-1));
        check.badArgument("21 argument, then state", () -> fired(0).takeBack(7));
        check.badArgument("21 argument, then state", () -> fired(0).takeBack(0));
        check.badArgument("21 argument, then state", () -> fired(5).takeBack(7));
        check.badIndex("22 fact, then what", () -> believed().why(3, 0, 4));
        check.badIndex("22 support, then what", () -> believed().why(2, 2, 4));
        check.badIndex("22 support, then what", () -> believed().why(0, 0, -1));
        check.badArgument("24 argument, then state", () -> following(13).follows(8, 0, 0, 0));
        check.badArgument("24 argument, then state", () -> following(13).follows(0, 0, 0, 1000));
        check.badState("24 state", () -> following(13).follows(0, 0, 0, 0));
        check.badIndex("25 table, then policy", () -> new JoinNet().policy(2, 4));
        JoinNet rows = new JoinNet();
        for (int i = 0; i < 8; i++) {
            rows.row(0, 0, 9, 0, 9, 0, 0);
            rows.row(1, 0, 9, 0, 9, 0, 0);
        }
        check.badIndex("26 table, then argument", () -> rows.row(-1, 0, 0, 0, 0, 100, 0));
        check.badIndex("26 table, then state", () -> rows.row(2, 0, 0, 0, 0, 0, 0));
        check.badArgument("26 argument, then state", () -> rows.row(0, 0, 0, 0, 0, 100, 0));
        check.badArgument("26 argument, then state", () -> rows.row(1, 1, 0, 0, 0, 0, 0));
        check.badIndex("27 table, then argument", () -> new JoinNet().outcome(2, 1000, 0));
        check.badIndex("27 table, then argument", () -> new JoinNet().outcome(-1, 0, 1000));
    }
}
