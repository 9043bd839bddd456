/** Counts answers that are not as due, and has the calls that most tests need. */
final class Check {
    static final int NONE = JoinNet.NONE;
    static final Class<IllegalArgumentException> ARGUMENT = IllegalArgumentException.class;
    static final Class<IllegalStateException> STATE = IllegalStateException.class;
    static final Class<IndexOutOfBoundsException> INDEX = IndexOutOfBoundsException.class;

    /** Makes an object that one call is tried on. */
    interface Maker {
        JoinNet make();
    }

    /** A call with one argument that is tried with several values. */
    interface Call {
        void on(JoinNet net, int value);
    }

    private final String name;
    private int made;
    private int wrong;

    Check(String name) {
        this.name = name;
    }

    void due(String what, long want, long got) {
        made++;
        if (want != got) {
            wrong++;
            System.out.println(what + " answered " + got + ", due is " + want);
        }
    }

    void isTrue(String what, boolean isSo) {
        due(what, 1, isSo ? 1 : 0);
    }

    /** Due is just this exception, thrown by JoinNet itself and not by the machine. */
    void isThrown(Class<? extends RuntimeException> due, String what, Runnable call) {
        made++;
        String got = "nothing";
        try {
            call.run();
        } catch (RuntimeException e) {
            boolean isOwn = e.getStackTrace()[0].getClassName().startsWith("JoinNet");
            got = e.getClass().getName() + (isOwn ? "" : " of the machine");
        }
        if (!got.equals(due.getName())) {
            wrong++;
            System.out.println(what + " threw " + got + ", due is " + due.getName());
        }
    }

    void badArgument(String what, Runnable call) {
        isThrown(IllegalArgumentException.class, what, call);
    }

    void badIndex(String what, Runnable call) {
        isThrown(IndexOutOfBoundsException.class, what, call);
    }

    void badState(String what, Runnable call) {
        isThrown(IllegalStateException.class, what, call);
    }

    void isFine(String what, Runnable call) {
        made++;
        try {
            call.run();
        } catch (RuntimeException e) {
            wrong++;
            System.out.println(what + " threw " + e.getClass().getName() + ", due is nothing");
        }
    }

    /** Due is that an argument is taken from least to most, and that this exception is thrown on both sides. */
    void bounds(String what, Class<? extends RuntimeException> due, int least, int most, Maker maker, Call call) {
        for (int good : new int[] {least, (least + most) / 2, most}) {
            JoinNet net = maker.make();
            isFine(what + " " + good, () -> call.on(net, good));
        }
        for (int bad : new int[] {least - 1, most + 1, Integer.MIN_VALUE, Integer.MAX_VALUE}) {
            JoinNet net = maker.make();
            isThrown(due, what + " " + bad, () -> call.on(net, bad));
        }
    }

    void isRule(String text) {
        JoinNet net = new JoinNet();
        feed(net, text);
        try {
            due("rule " + text, 0, net.rule());
        } catch (IllegalStateException e) {
            due("rule " + text, 0, NONE);
        }
    }

    void isNoRule(String text) {
        JoinNet net = new JoinNet();
        feed(net, text);
        badState("rule " + text, net::rule);
    }

    void isGoal(String text) {
        JoinNet net = new JoinNet();
        feed(net, text);
        isFine("goal " + text, net::goal);
    }

    void isNoGoal(String text) {
        JoinNet net = new JoinNet();
        feed(net, text);
        badState("goal " + text, net::goal);
    }

    /** Prints how it went, and ends with exit code 1 if something was wrong. */
    void end() {
        System.out.println(name + ": " + made + " answers, " + wrong + " wrong");
        if (wrong != 0) {
            System.exit(1);
        }
    }

    static void feed(JoinNet net, String text) {
        for (int at = 0; at < text.length(); at += 8) {
            int n = Math.min(8, text.length() - at);
            long bytes = 0;
            for (int i = 0; i < n; i++) {
                bytes |= (long) (text.charAt(at + i) & 255) << 8 * i;
            }
            net.feed(bytes, n);
        }
    }

    static int rule(JoinNet net, String text) {
        feed(net, text);
        return net.rule();
    }

    static int goal(JoinNet net, String text) {
        feed(net, text);
        return net.goal();
    }

    static JoinNet withRules(String... texts) {
        JoinNet net = new JoinNet();
        for (String text : texts) {
            rule(net, text);
        }
        return net;
    }

    /** An object with facts of kind a, numbered from 0, which are their first slots too. */
    static JoinNet withFacts(int many) {
        JoinNet net = new JoinNet();
        for (int i = 0; i < many; i++) {
            fact(net, 'a', i, 0, 0);
        }
        return net;
    }

    /** Tells a plain fact with grade 100 and no end. */
    static int fact(JoinNet net, char kind, int one, int two, int three) {
        return net.tell(kind - 'a', one, two, three, 100, NONE);
    }

    static boolean has(JoinNet net, char kind, int one, int two, int three) {
        for (int place = 0; place < net.facts(); place++) {
            int number = net.factAt(place);
            boolean isAlike = net.fact(number, 1) == one && net.fact(number, 2) == two && net.fact(number, 3) == three;
            if (isAlike && net.fact(number, 0) == kind - 'a') {
                return true;
            }
        }
        return false;
    }
}
