/** Promises 9 to 13, and what Rules in the document says of texts and matches. */
public final class RulesTest {
    private static final Check check = new Check("RulesTest");

    public static void main(String[] args) {
        rule();
        texts();
        badTexts();
        variables();
        expressionsInTexts();
        dropRule();
        slots();
        terms();
        agesAndTimes();
        notAndExists();
        forAll();
        sums();
        matches();
        met();
        shared();
        check.end();
    }

    private static int matchesOf(String conditions, int... values) {
        JoinNet net = Check.withRules("0,0,100:" + conditions + "=>^0");
        for (int i = 0; i + 3 < values.length; i += 4) {
            net.tell(values[i], values[i + 1], values[i + 2], values[i + 3], 100, JoinNet.NONE);
        }
        return net.matches();
    }

    private static void rule() {
        JoinNet net = new JoinNet();
        String text = "0,0,100:a(_,_,_)=>^0";
        for (int i = 0; i < 10; i++) {
            check.due("9 number", i, Check.rule(net, text));
        }
        Check.feed(net, text);
        check.badState("9 10 are there", net::rule);
        check.due("9 the tape is used up", 1, net.feed('x', 1));
        check.badState("9 no rule", net::rule);
        net.dropRule(4);
        check.badState("9 nothing on the tape", net::rule);
        check.due("9 numbers go on", 10, Check.rule(net, text));
        Check.feed(net, text);
        check.badState("9 10 again", net::rule);
        Check.fact(net, 'a', 0, 0, 0);
        check.due("9 all match", 10, net.matches());
    }

    private static void texts() {
        check.isRule("0,0,0:a(_,_,_)=>^0");
        check.isRule("-99,3,100:h(-999,999,-0)=>-1");
        check.isRule("99,0,7:a(007,_,_)=>^3^0^1^2");
        check.isRule("001,1,099:a(_,_,_)b(_,_,_)c(_,_,_)!d(_,_,_)=>-1-2-3");
        check.isRule("0,0,1:a(_,_,_)!b(_,_,_)?b(_,_,_)*b(_,_,_)c(_,_,_)=>^0");
        check.isRule("0,0,1:a(x,y,z)$t:b(x,@,t)=>^0");
        check.isRule("0,0,1:a(<1,>-2,#3)<-5=>^0");
        check.isRule("0,0,1:a(_,_,_)a(_,_,_)<3/1a(_,_,_)/2!a(_,_,_)/3=>^0");
        check.isRule("0,0,1:a(_,_,_)*b(_,_,_)<1/1c(_,_,_)<2/1=>+a(1,2,3)&h(0,0,0)-1~1.2=5");
    }

    private static void badTexts() {
        String[] bad = {
            "", "0", "x", "0,0,100:a(_,_,_)=>", "0,0,100:=>^0", "0,0,100:a(_,_,_)^0", " 0,0,100:a(_,_,_)=>^0",
            "0,0,100:a(_,_,_)=>^0 ", "0,0,100: a(_,_,_)=>^0", "0,0,100:a(_,_,_)=>^0x", "0,0,100:a(_,_,_)=^0",
            "100,0,100:a(_,_,_)=>^0", "-100,0,100:a(_,_,_)=>^0", "0,4,100:a(_,_,_)=>^0", "0,00,100:a(_,_,_)=>^0",
            "0,-1,100:a(_,_,_)=>^0", "0,0,101:a(_,_,_)=>^0", "0,0,-1:a(_,_,_)=>^0", "0000,0,1:a(_,_,_)=>^0",
            ",0,1:a(_,_,_)=>^0", "-,0,1:a(_,_,_)=>^0", "0,,1:a(_,_,_)=>^0", "0,0,:a(_,_,_)=>^0",
            "0,0,1:i(_,_,_)=>^0", "0,0,1:(_,_,_)=>^0", "0,0,1:a(_,_,_)=>+(1,2,3)", "0,0,1:a(_,_,_)*(_,_,_)b(_,_,_)=>^0",
            "0,0,1:A(_,_,_)=>^0", "0,0,1:a(_,_)=>^0", "0,0,1:a(_,_,_,_)=>^0",
            "0,0,1:a(_,_,)=>^0", "0,0,1:a(1000,_,_)=>^0", "0,0,1:a(--1,_,_)=>^0", "0,0,1:a(<_,_,_)=>^0",
            "0,0,1:a(<>1,_,_)=>^0", "0,0,1:a(=1,_,_)=>^0", "0,0,1:a(1+1,_,_)=>^0", "0,0,1:a(@,_,_)=>^0",
            "0,0,1:a(_,_,_)<=>^0", "0,0,1:a(_,_,_)<1000=>^0", "0,0,1:a(_,_,_)/1=>^0", "0,0,1:a(_,_,_)a(_,_,_)/2=>^0",
            "0,0,1:a(_,_,_)a(_,_,_)/0=>^0", "0,0,1:a(_,_,_)a(_,_,_)/1<2=>^0", "0,0,1:a(_,_,_)!a(_,_,_)/2=>^0",
            "0,0,1:a(_,_,_)a(_,_,_)/-1=>^0", "0,0,1:!a(_,_,_)=>^0", "0,0,1:?a(_,_,_)b(_,_,_)=>^0",
            "0,0,1:$t:a(_,@,_)=>^0", "0,0,1:*a(_,_,_)b(_,_,_)=>^0", "0,0,1:a(_,_,_)*b(_,_,_)=>^0",
            "0,0,1:a(_,_,_)b(_,_,_)c(_,_,_)d(_,_,_)=>^0",
            "0,0,1:a(_,_,_)!b(_,_,_)!c(_,_,_)!d(_,_,_)!e(_,_,_)=>^0", "0,0,1:a(_,_,_)!!b(_,_,_)=>^0",
            "0,0,1:a(_,_,_)$t:b(_,_,_)=>^0", "0,0,1:a(_,_,_)$t:b(@,@,_)=>^0", "0,0,1:a(_,_,_)$tb(@,_,_)=>^0",
            "0,0,1:a(_,_,_)$o:b(@,_,_)=>^0", "0,0,1:a(_,_,_)$:b(@,_,_)=>^0",
            "0,0,1:a(_,_,_)$1:b(@,_,_)=>^0", "0,0,1:a(_,_,_)!b(@,_,_)=>^0",
            "0,0,1:a(_,_,_)$t:b(<@,_,_)=>^0", "0,0,1:a(_,_,_)*b(@,_,_)c(_,_,_)=>^0",
            "0,0,1:a(_,_,_)=>^4", "0,0,1:a(_,_,_)=>^", "0,0,1:a(_,_,_)=>-2", "0,0,1:a(_,_,_)=>-0",
            "0,0,1:a(_,_,_)=>~2.0=1", "0,0,1:a(_,_,_)=>~0.0=1", "0,0,1:a(_,_,_)=>~1.3=1", "0,0,1:a(_,_,_)=>~1.0=",
            "0,0,1:a(_,_,_)=>~1=1", "0,0,1:a(_,_,_)=>^0^0^0^0^0", "0,0,1:a(_,_,_)=>+a(1,2)", "0,0,1:a(_,_,_)=>+a(1,2,_)",
            "0,0,1:a(_,_,_)=>a(1,2,3)", "0,0,1:a(_,_,_)=>+i(1,2,3)", "0,0,1:a(_,_,_)b(_,_,_)!c(_,_,_)=>-3",
            "0,0,1:a(_,_,_)=>^0" + (char) 0, "0,0,1:a(_,_,_)=>^" + (char) 0xb0
        };
        for (String text : bad) {
            check.isNoRule(text);
        }
        JoinNet net = Check.withRules("0,0,1:a(_,_,_)=>^0");
        Check.fact(net, 'a', 0, 0, 0);
        for (int i = 0; i < 40; i++) {
            Check.feed(net, "0,0,1:a(x,_,_)b(_,1,2)<3!c(_,_,_)=>^1~1.0=1+2+3+4+5+x~1.1=3^4");
            check.badState("9 bad", net::rule);
        }
        check.due("9 a bad text changes nothing", 1, net.matches());
        check.due("9 and uses no number", 1, Check.rule(net, "1,0,1:a(y,_,_)=>+b(y+7,y-7,9)"));
        net.fire();
        check.isTrue("9 nor comes into the next one", Check.has(net, 'b', 7, -7, 9));
    }

    private static void variables() {
        for (char letter = 'a'; letter <= 'z'; letter++) {
            String text = "0,0,1:a(" + letter + ",_,_)=>+a(" + letter + ",0,0)";
            if (letter >= 'p') {
                check.isRule(text);
            } else {
                check.isNoRule(text);
            }
        }
        check.isRule("0,0,1:a(x,x,<x)=>^0");
        check.isRule("0,0,1:a(x,x+1,>x-2)=>^0");
        check.isRule("0,0,1:a(x,x+-1,#x--2)=>^0");
        check.isNoRule("0,0,1:a(<x,x,_)=>^0");
        check.isNoRule("0,0,1:a(x+1,x,_)=>^0");
        check.isNoRule("0,0,1:a(x,x*2,_)=>^0");
        check.isNoRule("0,0,1:a(x,x+y,_)=>^0");
        check.isNoRule("0,0,1:a(x,x+1+1,_)=>^0");
        check.isNoRule("0,0,1:a(_,_,_)!b(#x,_,_)=>^0");
        check.isRule("0,0,1:a(_,_,_)!b(x,#x,_)=>^0");
        check.isNoRule("0,0,1:a(_,_,_)!b(x,_,_)!c(#x,_,_)=>^0");
        check.isRule("0,0,1:a(_,_,_)*b(x,_,_)c(#x,_,_)=>^0");
        check.isRule("0,0,1:a(_,_,_)!b(x,_,_)c(x,_,_)=>+a(x,0,0)");
        for (String local : new String[] {"!b(x,_,_)", "?b(x,_,_)", "*b(x,_,_)c(x,_,_)", "$t:b(x,@,_)"}) {
            check.isNoRule("0,0,1:a(_,_,_)" + local + "=>+a(x,0,0)");
            check.isNoRule("0,0,1:a(_,_,_)" + local + "c(#x,_,_)=>^0");
        }
        check.isRule("0,0,1:a(_,_,_)$x:b(@,_,_)=>+a(x,0,0)");
        check.isRule("0,0,1:a(_,_,_)$x:b(@,x,#x)c(#x,_,_)=>^0");
        check.isNoRule("0,0,1:a(x,_,_)$x:b(@,_,_)=>^0");
        check.isNoRule("0,0,1:a(_,_,_)$x:b(@,_,_)$x:c(@,_,_)=>^0");
        check.isRule("0,0,1:a(_,_,_)!b(x,_,_)$x:c(@,_,_)=>^0");
        check.isNoRule("0,0,1:a(x,_,_)=>+a(y,0,0)");
        check.isNoRule("0,0,1:a(x,_,_)=>~1.0=y");
    }

    private static void expressionsInTexts() {
        check.isRule("0,0,1:a(x,_,_)=>+a(x+1-2*3,x--1,T0(x,T1(1,2))*-2)");
        check.isRule("0,0,1:a(x,_,_)=>~1.0=x+1+b(1,2,3)-1");
        check.isRule("0,0,1:a(x,_,_)=>~1.0=x-1-1-1-1-1");
        check.isRule("0,0,1:a(x,_,_)=>~1.0=x+T0(1,2)&b(1,2,3)~1.1=3^0");
        check.isNoRule("0,0,1:a(x,_,_)=>~1.0=x-1-1-1-1-1-");
        check.isNoRule("0,0,1:a(x,_,_)=>~1.0=x*");
        check.isNoRule("0,0,1:a(x,_,_)=>~1.0=x*b(1,2,3)");
        check.isNoRule("0,0,1:a(x,_,_)=>~1.0=x+");
        check.isNoRule("0,0,1:a(x,_,_)=>~1.0=1000");
        check.isNoRule("0,0,1:a(x,_,_)=>+a(x+,0,0)");
        check.isNoRule("0,0,1:a(x,_,_)=>+a((x),0,0)");
        check.isNoRule("0,0,1:a(x,_,_)=>+a(-x,0,0)");
        check.isNoRule("0,0,1:a(x,_,_)=>+a(x/2,0,0)");
        check.isNoRule("0,0,1:a(x,_,_)=>+a(T2(1,2),0,0)");
        check.isNoRule("0,0,1:a(x,_,_)=>+a(T(1,2),0,0)");
        check.isNoRule("0,0,1:a(x,_,_)=>+a(T0(1),0,0)");
        check.isNoRule("0,0,1:a(x,_,_)=>+a(T0(1,2,3),0,0)");
        StringBuilder deep = new StringBuilder("1");
        for (int i = 0; i < 21; i++) {
            deep.insert(0, "T0(").append(",1)");
        }
        check.isRule("0,0,1:a(x,_,_)=>~1.0=" + deep);
        check.isNoRule("0,0,1:a(x,_,_)=>~1.0=" + "T0(".repeat(46));
    }

    private static void dropRule() {
        JoinNet net = Check.withRules("0,0,100:a(x,_,_)=>&b(x,0,0)", "0,0,100:b(x,_,_)=>&c(x,0,0)+d(x,0,0)",
                "0,0,100:c(x,_,_)=>&b(x,0,0)");
        Check.fact(net, 'a', 1, 0, 0);
        net.run(9);
        check.due("10 facts", 4, net.facts());
        check.badIndex("10 none", () -> net.dropRule(3));
        check.badIndex("10 -1", () -> net.dropRule(-1));
        net.dropRule(0);
        check.due("10 settled, also in the ring", 2, net.facts());
        check.isTrue("10 plain facts stay", Check.has(net, 'd', 1, 0, 0));
        check.due("10 no matches", 0, net.matches());
        check.badIndex("10 dropped", () -> net.dropRule(0));
        check.badIndex("10 met", () -> net.met(0));
        check.due("10 a new number", 3, Check.rule(net, "0,0,100:a(x,_,_)=>^0"));
        check.due("10 its match is open", 1, net.agenda());
        check.badIndex("10 still dropped", () -> net.dropRule(0));
    }

    private static void slots() {
        check.due("slots _", 2, matchesOf("a(_,_,_)", 0, 1, 2, 3, 0, 4, 5, 6, 1, 1, 2, 3));
        check.due("slots INT", 1, matchesOf("a(_,5,_)", 0, 1, 2, 3, 0, 4, 5, 6));
        check.due("slots -INT", 1, matchesOf("a(_,_,-06)", 0, 1, 2, -6, 0, 4, 5, 6));
        check.due("slots <", 2, matchesOf("a(<2,_,_)", 0, 1, 0, 0, 0, 2, 0, 0, 0, 3, 0, 0, 0, -5, 0, 0));
        check.due("slots >", 1, matchesOf("a(>2,_,_)", 0, 1, 0, 0, 0, 2, 0, 0, 0, 3, 0, 0, 0, -5, 0, 0));
        check.due("slots #", 3, matchesOf("a(#2,_,_)", 0, 1, 0, 0, 0, 2, 0, 0, 0, 3, 0, 0, 0, -5, 0, 0));
        check.due("slots x", 1, matchesOf("a(x,x,_)", 0, 1, 1, 0, 0, 2, 0, 0));
    }

    private static void terms() {
        check.due("term x", 1, matchesOf("a(x,_,_)b(_,x,_)", 0, 1, 0, 0, 1, 0, 1, 0, 1, 1, 0, 0));
        check.due("term x+1", 1, matchesOf("a(x,_,_)b(x+1,_,_)", 0, 1, 0, 0, 1, 2, 0, 0, 1, 0, 0, 0, 1, 1, 0, 0));
        check.due("term x-1", 1, matchesOf("a(x,_,_)b(x-1,_,_)", 0, 1, 0, 0, 1, 2, 0, 0, 1, 0, 0, 0, 1, 1, 0, 0));
        check.due("term <x+1", 2, matchesOf("a(x,_,_)b(<x+1,_,_)", 0, 1, 0, 0, 1, 2, 0, 0, 1, 0, 0, 0, 1, 1, 0, 0));
        check.due("term >x", 1, matchesOf("a(x,_,_)b(>x,_,_)", 0, 1, 0, 0, 1, 2, 0, 0, 1, 0, 0, 0, 1, 1, 0, 0));
        check.due("term #x--1", 2, matchesOf("a(x,_,_)b(#x--1,_,_)", 0, 1, 0, 0, 1, 2, 0, 0, 1, 0, 0, 0, 1, 1, 0, 0));
        check.due("the same fact twice", 4, matchesOf("a(_,_,_)a(_,_,_)", 0, 1, 0, 0, 0, 2, 0, 0));
        check.due("another fact", 2, matchesOf("a(x,_,_)a(#x,_,_)", 0, 1, 0, 0, 0, 2, 0, 0));
        check.due("three", 8, matchesOf("a(_,_,_)a(_,_,_)a(_,_,_)", 0, 1, 0, 0, 0, 2, 0, 0));
    }

    private static void agesAndTimes() {
        JoinNet net = Check.withRules("0,0,100:a(_,_,_)<2=>^0", "0,0,100:a(_,_,_)a(_,_,_)/1=>^0",
                "0,0,100:a(_,_,_)!a(_,_,_)/1=>^0", "0,0,100:a(_,_,_)<0=>^0");
        Check.fact(net, 'a', 0, 0, 0);
        Check.fact(net, 'a', 1, 0, 0);
        check.due("age 0 < 2, not at the same time, none later", 2 + 2, net.matches());
        net.pass(1);
        Check.fact(net, 'a', 2, 0, 0);
        check.due("age 1 < 2, two have a later one, one has none", 3 + 2 + 1, net.matches());
        net.pass(1);
        check.due("age 2", 1 + 2 + 1, net.matches());
    }

    private static void notAndExists() {
        int[] facts = {0, 1, 0, 0, 0, 2, 0, 0, 1, 1, 5, 0, 1, 1, 6, 0};
        check.due("! none", 1, matchesOf("a(x,_,_)!b(x,_,_)", facts));
        check.due("? one", 1, matchesOf("a(x,_,_)?b(x,_,_)", facts));
        check.due("! local", 2, matchesOf("a(x,_,_)!b(y,y,_)", facts));
        check.due("? local", 2, matchesOf("a(x,_,_)?b(y,>y,_)", facts));
        check.due("a local value is gone behind it", 2, matchesOf("a(x,_,_)?b(_,y,_)b(x,y,_)", facts));
        check.due("in their order", 0, matchesOf("a(x,_,_)!b(x,y,_)b(_,y,_)a(x,_,1)", facts));
    }

    private static void forAll() {
        check.due("* none at all", 1, matchesOf("a(_,_,_)*b(x,_,_)c(x,_,_)", 0, 0, 0, 0));
        check.due("* each has one", 1,
                matchesOf("a(_,_,_)*b(x,_,_)c(x,_,_)", 0, 0, 0, 0, 1, 1, 0, 0, 1, 2, 0, 0, 2, 1, 0, 0, 2, 2, 0, 0));
        check.due("* one has none", 0,
                matchesOf("a(_,_,_)*b(x,_,_)c(x,_,_)", 0, 0, 0, 0, 1, 1, 0, 0, 1, 2, 0, 0, 2, 1, 0, 0));
        check.due("* with values from earlier", 1,
                matchesOf("a(z,_,_)*b(x,z,_)c(x,z,_)", 0, 7, 0, 0, 0, 8, 0, 0, 1, 1, 7, 0, 2, 1, 8, 0));
        check.due("* in one fact", 1, matchesOf("a(_,_,_)*b(x,_,_)b(_,x,_)", 0, 0, 0, 0, 1, 1, 1, 0));
    }

    private static void sums() {
        JoinNet net = Check.withRules("0,0,100:a(x,_,_)$s:b(x,@,_)$t:b(_,_,@)<1c(<s,_,_)=>+h(s,t,x)");
        Check.fact(net, 'a', 1, 0, 0);
        Check.fact(net, 'c', 4, 0, 0);
        Check.fact(net, 'b', 1, 2, -999);
        Check.fact(net, 'b', 1, 3, -999);
        Check.fact(net, 'b', 2, 9, 0);
        check.due("sum is met", 1, net.matches());
        check.due("fire", 0, net.fire());
        check.isTrue("sums, the nearest value", Check.has(net, 'h', 5, -999, 1));
        Check.fact(net, 'b', 1, -1, 1);
        check.due("4 < 4", 0, net.matches());
        JoinNet none = Check.withRules("0,0,100:a(_,_,_)$s:b(@,_,_)=>+h(s,0,0)");
        Check.fact(none, 'a', 1, 0, 0);
        none.fire();
        check.isTrue("of none", Check.has(none, 'h', 0, 0, 0));
        // Brought to the nearest value at its end, and not on its way.
        Check.fact(none, 'b', 999, 0, 0);
        Check.fact(none, 'b', 998, 0, 0);
        Check.fact(none, 'b', -990, 0, 0);
        Check.fact(none, 'b', -100, 0, 0);
        Check.fact(none, 'a', 2, 0, 0);
        none.fire();
        check.isTrue("907", Check.has(none, 'h', 907, 0, 0));
        // The variable of the $ can have a value of its own within it.
        JoinNet own = Check.withRules("0,0,100:a(_,_,_)$s:b(s,@,s)=>+h(s,0,0)");
        Check.fact(own, 'a', 1, 0, 0);
        Check.fact(own, 'b', 4, 5, 4);
        Check.fact(own, 'b', 3, 6, 3);
        Check.fact(own, 'b', 3, 7, 4);
        own.fire();
        check.isTrue("own value", Check.has(own, 'h', 11, 0, 0));
    }

    private static void matches() {
        JoinNet net = Check.withRules("0,0,100:a(_,_,_)=>^0", "0,3,100:a(_,_,_)a(_,_,_)=>^0");
        check.due("11 none", 0, net.matches());
        Check.fact(net, 'a', 1, 0, 0);
        Check.fact(net, 'a', 2, 0, 0);
        check.due("11 of all units", 6, net.matches());
        net.fire();
        check.due("11 fired ones too", 6, net.matches());
        net.drop(0);
        check.due("11 less", 2, net.matches());
        net.dropRule(1);
        check.due("11 less rules", 1, net.matches());
    }

    private static void met() {
        JoinNet net = Check.withRules("0,0,100:a(x,_,_)b(x,_,_)!c(x,_,_)d(x,_,_)=>^0", "0,0,100:a(x,_,_)$t:b(@,_,_)=>^0");
        check.badIndex("12 none", () -> net.met(2));
        check.badIndex("12 -1", () -> net.met(-1));
        check.due("12 no facts", 0, net.met(0));
        Check.fact(net, 'd', 1, 0, 0);
        check.due("12 the last alone", 0, net.met(0));
        Check.fact(net, 'a', 1, 0, 0);
        Check.fact(net, 'b', 2, 0, 0);
        check.due("12 the first, not together", 1, net.met(0));
        check.due("12 a sum is met", 2, net.met(1));
        Check.fact(net, 'a', 2, 0, 0);
        check.due("12 three", 3, net.met(0));
        Check.fact(net, 'c', 2, 0, 0);
        check.due("12 two", 2, net.met(0));
        Check.fact(net, 'b', 1, 0, 0);
        check.due("12 all", 4, net.met(0));
        net.fire();
        net.dropRule(0);
        check.badIndex("12 dropped", () -> net.met(0));
        check.due("12 the other one", 2, net.met(1));
    }

    private static void shared() {
        JoinNet net = new JoinNet();
        String[] texts = {"a(x,1,_)=>^0", "a(_,01,y)b(<5,_,_)=>^0", "a(_,01,y)b(<5,_,_)!b(<6,y,_)<3=>^0",
            "a(x,_,_)?b(x,_,_)*b(>5,_,_)b(5,<x,#5)=>^0", "a(x,_,_)?b(y,_,_)$t:a(_,1,@)=>^0"};
        int[] tests = {1, 2, 3, 7, 7};
        int[] beginnings = {1, 3, 4, 7, 9};
        for (int i = 0; i < texts.length; i++) {
            Check.rule(net, "0,0,100:" + texts[i]);
            check.due("13 tests " + i, tests[i], net.shared(false));
            check.due("13 beginnings " + i, beginnings[i], net.shared(true));
        }
        net.dropRule(2);
        check.due("13 tests less", 6, net.shared(false));
        check.due("13 beginnings less", 8, net.shared(true));
        net.dropRule(1);
        check.due("13 tests less", 5, net.shared(false));
        check.due("13 beginnings less", 6, net.shared(true));
    }
}
