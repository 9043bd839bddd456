import java.util.Random;

/**
 * The room of a run: objects whose calls are as dear as can be thought of, 512 calls each, are played, and what they
 * take of the heap is measured. No call throws by itself, and each one ends.
 */
public final class RoomTest {
    private static final int NONE = JoinNet.NONE;
    private static final int MOST_CALLS = 512;
    /** The room is told in objects and in fields; both are far off, as long as this many bytes are not taken. */
    private static final long MOST_BYTES = 5_000_000;
    private static int wrong;
    private int calls;
    private final JoinNet net = new JoinNet();

    private interface Play {
        void on(RoomTest room);
    }

    public static void main(String[] args) {
        // Once ahead of all, so that what the test itself loads is not counted.
        newObject(new RoomTest());
        play("a new object", RoomTest::newObject);
        play("runs that fire 50 times", RoomTest::manyFirings);
        play("many matches that stay fired", RoomTest::manyFired);
        play("many supports", RoomTest::manySupports);
        play("runs that would be", RoomTest::manyWouldBe);
        play("texts", RoomTest::manyTexts);
        play("much that follows", RoomTest::muchFollows);
        wild();
        if (wrong != 0) {
            System.exit(1);
        }
        System.out.println("RoomTest: all plays have room");
    }

    private static void play(String what, Play play) {
        long before = taken();
        RoomTest room = new RoomTest();
        play.on(room);
        long bytes = taken() - before;
        if (bytes > MOST_BYTES) {
            wrong++;
            System.out.println(what + " took " + bytes + " bytes");
        }
    }

    /** How many bytes this thread has taken so far; 0, if the Java that is used does not tell. */
    private static long taken() {
        try {
            Object threads = Class.forName("java.lang.management.ManagementFactory").getMethod("getThreadMXBean").invoke(null);
            return (Long) Class.forName("com.sun.management.ThreadMXBean").getMethod("getThreadAllocatedBytes", long.class)
                    .invoke(threads, Thread.currentThread().getId());
        } catch (ReflectiveOperationException e) {
            return 0;
        }
    }

    private boolean isLeft() {
        calls++;
        return calls <= MOST_CALLS;
    }

    private void text(String text) {
        for (int i = 0; i < text.length(); i++) {
            if (isLeft()) {
                net.feed(text.charAt(i), 1);
            }
        }
        if (isLeft()) {
            net.rule();
        }
    }

    private void facts(int many) {
        for (int i = 0; i < many; i++) {
            if (isLeft()) {
                net.tell(0, i, 0, 0, 100, NONE);
            }
        }
    }

    private static void newObject(RoomTest room) {
        room.net.facts();
    }

    private static void manyFirings(RoomTest room) {
        room.text("0,0,9:a(x,_,_)=>~1.0=x+1");
        room.facts(20);
        while (room.isLeft()) {
            room.net.run(50);
        }
    }

    /** Each match of the first rule leads to another state, so that no loop ends a run, and holds on. */
    private static void manyFired(RoomTest room) {
        room.text("0,0,9:a(x,_,_)a(y,_,_)a(z,_,_)=>+c(x,y,z)");
        room.text("1,0,9:c(x,y,z)d(_,_,_)=>-1-2+d(x,y,z)");
        room.facts(17);
        room.net.tell(3, 99, 0, 0, 100, NONE);
        for (int i = 0; i < 100; i++) {
            room.net.run(50);
        }
    }

    private static void manySupports(RoomTest room) {
        room.text("0,0,9:a(x,_,_)a(y,_,_)a(z,_,_)=>+c(x,y,z)&b(0,0,0)&b(1,0,0)");
        room.text("1,0,9:c(x,y,z)d(_,_,_)=>-1-2+d(x,y,z)");
        room.facts(15);
        room.net.tell(3, 99, 0, 0, 100, NONE);
        for (int i = 0; i < 50; i++) {
            room.net.run(50);
        }
    }

    private static void manyWouldBe(RoomTest room) {
        room.text("0,0,9:a(_,x,_)a(_,_,_)=>&b(0,0,0)~2.1=x+1");
        room.facts(19);
        while (room.isLeft()) {
            room.net.wouldBe(50, 0, 0, 0, 0);
        }
    }

    private static void manyTexts(RoomTest room) {
        String text = "0,0,9:a(x,_,_)=>+a(T0(T1(x,1),2)*3,0,0)";
        for (int i = 0; i < MOST_CALLS / (text.length() + 2); i++) {
            room.text(text);
            room.net.dropRule(i);
        }
    }

    private static void muchFollows(RoomTest room) {
        String text = "b(x,y,0):a(x,_,_)a(y,_,_)";
        for (int i = 0; i < text.length(); i++) {
            room.net.feed(text.charAt(i), 1);
        }
        room.net.goal();
        room.calls = text.length() + 1;
        room.facts(11);
        while (room.isLeft()) {
            room.net.follows(1, 1, 1, 0);
        }
    }

    /** Any arguments in any state: what is thrown is thrown by JoinNet, and is one of the three. */
    private static void wild() {
        int[] values = {Integer.MIN_VALUE, Integer.MAX_VALUE, -1, 0, 1, 7, 8, 9, 50, 999, 1000, -999, -1000, 1 << 16};
        for (int run = 0; run < 40; run++) {
            Random random = new Random(run);
            JoinNet net = new JoinNet();
            for (int i = 0; i < MOST_CALLS; i++) {
                int[] v = new int[7];
                for (int k = 0; k < 7; k++) {
                    v[k] = random.nextInt(4) == 0 ? random.nextInt() : values[random.nextInt(values.length)];
                }
                try {
                    call(net, random.nextInt(27), v);
                } catch (IllegalArgumentException | IllegalStateException | IndexOutOfBoundsException e) {
                    boolean isOwn = e.getStackTrace()[0].getClassName().startsWith("JoinNet");
                    boolean isPlain = e.getClass().getName().matches("java.lang.(IllegalArgument|IllegalState|IndexOutOfBounds)Exception");
                    if (!isOwn || !isPlain) {
                        wrong++;
                        e.printStackTrace();
                    }
                }
            }
        }
    }

    private static void call(JoinNet net, int which, int[] v) {
        switch (which) {
            case 0 -> net.feed((long) v[0] << 32 ^ v[1], v[2]);
            case 1 -> net.tell(v[0], v[1], v[2], v[3], v[4], v[5]);
            case 2 -> net.drop(v[0]);
            case 3 -> net.pass(v[0]);
            case 4 -> net.facts();
            case 5 -> net.factAt(v[0]);
            case 6 -> net.fact(v[0], v[1]);
            case 7 -> net.rule();
            case 8 -> net.dropRule(v[0]);
            case 9 -> net.matches();
            case 10 -> net.met(v[0]);
            case 11 -> net.shared(v[0] > 0);
            case 12 -> net.focus(v[0]);
            case 13 -> net.agenda();
            case 14 -> net.next(v[0]);
            case 15 -> net.fire();
            case 16 -> net.run(v[0]);
            case 17 -> net.loop();
            case 18 -> net.wouldBe(v[0], v[1], v[2], v[3], v[4]);
            case 19 -> net.takeBack(v[0]);
            case 20 -> net.why(v[0], v[1], v[2]);
            case 21 -> net.goal();
            case 22 -> net.follows(v[0], v[1], v[2], v[3]);
            case 23 -> net.policy(v[0], v[1]);
            case 24 -> net.row(v[0], v[1], v[2], v[3], v[4], v[5], v[6]);
            case 25 -> net.outcome(v[0], v[1], v[2]);
            default -> net.hole(v[0], v[1] > 0);
        }
    }
}
