import java.lang.reflect.InvocationTargetException;
import java.lang.reflect.Method;
import java.util.ArrayList;
import java.util.HashMap;
import java.util.List;
import java.util.Map;
import java.util.Random;

/** Makes the same calls, by chance from fixed seeds, on JoinNet and on the model, and compares all answers. */
public final class ModelTest {
    private static final int NONE = -1000;
    /** What an object answers after so many calls is free. */
    private static final int MOST_CALLS = 512;
    /** So many calls are left for a look at all at the end. */
    private static final int LAST_LOOK = 220;
    private static final int[] WILD = {Integer.MIN_VALUE, Integer.MAX_VALUE, Integer.MIN_VALUE + 1, -1, 1000, -1000, -1001, 65536, 1 << 30};
    private static final Map<String, Method> METHODS = new HashMap<>();
    private static int wrong;

    private final Random random;
    private final Texts texts;
    private final JoinNet net = new JoinNet();
    private final Model model = new Model();
    private final List<String> log = new ArrayList<>();
    private boolean isOff;
    private final boolean isRowdy;
    private int rules;
    private int calls;

    private ModelTest(long seed) {
        random = new Random(seed);
        texts = new Texts(random);
        isRowdy = chance(20);
    }

    public static void main(String[] args) throws IllegalAccessException {
        int runs = args.length > 0 ? Integer.parseInt(args[0]) : 4000;
        int first = args.length > 1 ? Integer.parseInt(args[1]) : 0;
        for (Class<?> side : new Class<?>[] {JoinNet.class, Model.class}) {
            for (Method method : side.getDeclaredMethods()) {
                if (java.lang.reflect.Modifier.isPublic(method.getModifiers())) {
                    METHODS.put(side.getName() + method.getName(), method);
                }
            }
        }
        for (int i = first; i < first + runs && wrong < 5; i++) {
            new ModelTest(i).play(i);
        }
        System.out.println(wrong == 0 ? runs + " runs answer like the model" : wrong + " runs do not");
        if (wrong != 0) {
            System.exit(1);
        }
    }

    private boolean chance(int percent) {
        return random.nextInt(100) < percent;
    }

    private static String answer(Object side, String name, Object... arguments) throws IllegalAccessException {
        try {
            return String.valueOf(METHODS.get(side.getClass().getName() + name).invoke(side, arguments));
        } catch (InvocationTargetException e) {
            Throwable thrown = e.getCause();
            boolean isMachines = thrown.getStackTrace().length > 0
                    && !thrown.getStackTrace()[0].getClassName().startsWith(side.getClass().getName());
            return "throws." + thrown.getClass().getSimpleName() + (isMachines ? " by the machine" : "");
        }
    }

    /** The answer of both; nothing once they have not been the same, or after too many calls. */
    private String same(String name, Object... arguments) throws IllegalAccessException {
        if (isOff || calls == MOST_CALLS) {
            return "";
        }
        calls++;
        String got = answer(net, name, arguments);
        String due = answer(model, name, arguments);
        log.add(name + java.util.Arrays.toString(arguments) + " " + got);
        if (!got.equals(due)) {
            isOff = true;
            log.add("due is " + due);
        }
        return got;
    }

    private int sameNumber(String name, Object... arguments) throws IllegalAccessException {
        String got = same(name, arguments);
        return got.isEmpty() || got.startsWith("throws") ? 0 : Integer.parseInt(got);
    }

    private void play(int seed) throws IllegalAccessException {
        if (chance(40)) {
            fillTable();
        }
        int steps = 10 + random.nextInt(60);
        int start = 1 + random.nextInt(isRowdy ? 8 : 4);
        for (int i = 0; i < start; i++) {
            tellText(true);
        }
        for (int i = 0; i < steps && !isOff && calls < MOST_CALLS - LAST_LOOK; i++) {
            step();
            lookAtMill();
        }
        lookAtAll();
        if (isOff) {
            wrong++;
            System.out.println("seed " + seed);
            for (String line : log) {
                System.out.println("  " + line);
            }
        }
    }

    private void tellText(boolean isRule) throws IllegalAccessException {
        String text = isRule ? texts.rule() : texts.goal();
        log.add("text " + text);
        for (int at = 0; at < text.length();) {
            int n = Math.min(1 + random.nextInt(8), text.length() - at);
            long bytes = random.nextLong();
            bytes = n == 8 ? 0 : bytes << 8 * n;
            for (int i = 0; i < n; i++) {
                bytes |= (long) text.charAt(at + i) << 8 * i;
            }
            same("feed", bytes, n);
            at += n;
        }
        String got = same(isRule ? "rule" : "goal");
        rules += isRule && !got.startsWith("throws") ? 1 : 0;
    }

    private void fillTable() throws IllegalAccessException {
        int rows = random.nextInt(6);
        for (int i = 0; i < rows; i++) {
            int from = random.nextInt(5);
            int other = random.nextInt(5);
            same("row", random.nextInt(2), from, from + random.nextInt(5), other, other + random.nextInt(5),
                    random.nextInt(9) - 3, random.nextInt(4));
        }
        same("policy", random.nextInt(2), random.nextInt(4));
    }

    private int wild(int tame) {
        return chance(1) ? WILD[random.nextInt(WILD.length)] : tame;
    }

    private int value() {
        return chance(1) ? WILD[random.nextInt(WILD.length)] : chance(93) ? random.nextInt(4) : chance(80) ? random.nextInt(1999) - 999 : random.nextInt(2500) - 1250;
    }

    private int kind() {
        return chance(95) ? random.nextInt(3) : wild(random.nextInt(9));
    }

    private void step() throws IllegalAccessException {
        int what = random.nextInt(100);
        if (what < 30) {
            int life = chance(75) ? NONE : chance(95) ? 1 + random.nextInt(5) : random.nextInt(103);
            int grade = chance(50) ? 100 : chance(95) ? random.nextInt(101) : random.nextInt(120) - 10;
            same("tell", kind(), value(), value(), value(), wild(grade), wild(life));
        } else if (what < 42) {
            same("fire");
        } else if (what < 54) {
            same("run", chance(95) ? 1 + random.nextInt(12) : wild(random.nextInt(53)));
        } else if (what < 60) {
            same("pass", chance(90) ? 1 + random.nextInt(3) : wild(random.nextInt(103)));
        } else if (what < 66) {
            same("drop", someFact());
        } else if (what < 69) {
            tellText(true);
        } else if (what < 71) {
            same("dropRule", wild(random.nextInt(rules + 1)));
        } else if (what < 77) {
            same("focus", chance(95) ? random.nextInt(4) : wild(random.nextInt(6) - 1));
        } else if (what < 83) {
            same("takeBack", chance(70) ? 1 : wild(random.nextInt(8)));
        } else if (what < 89) {
            same("wouldBe", wild(random.nextInt(chance(90) ? 10 : 53)), kind(), value(), value(), value());
        } else if (what < 91) {
            tellText(false);
        } else if (what < 93) {
            fillTable();
        } else if (what < 95) {
            same("outcome", wild(random.nextInt(3)), value(), value());
            same("hole", wild(random.nextInt(3)), chance(50));
        } else if (what < 98) {
            same("follows", kind(), value(), value(), value());
        } else {
            same("rule");
            same("goal");
            same("factAt", wild(random.nextInt(25) - 2));
            same("fact", someFact(), wild(random.nextInt(10) - 1));
            same("why", someFact(), wild(random.nextInt(4) - 1), wild(random.nextInt(6) - 1));
            same("met", wild(random.nextInt(rules + 2) - 1));
            same("next", wild(random.nextInt(6) - 1));
            same("feed", random.nextLong(), wild(random.nextInt(10)));
            same("policy", wild(random.nextInt(4) - 1), wild(random.nextInt(6) - 1));
            same("row", wild(random.nextInt(2)), wild(random.nextInt(10)), wild(random.nextInt(10)), wild(random.nextInt(10)),
                    wild(random.nextInt(10)), wild(random.nextInt(220) - 110), wild(random.nextInt(12) - 1));
        }
    }

    private int someFact() throws IllegalAccessException {
        int facts = Integer.parseInt(answer(model, "facts"));
        if (facts == 0 || chance(5)) {
            return wild(random.nextInt(10) - 1);
        }
        return Integer.parseInt(answer(model, "factAt", random.nextInt(facts)));
    }

    private void lookAtMill() throws IllegalAccessException {
        int kept = log.size();
        for (String name : new String[] {"facts", "matches", "agenda", "loop"}) {
            same(name);
        }
        for (int what = 0; what < 4; what++) {
            same("next", what);
        }
        if (!isOff) {
            log.subList(kept, log.size()).clear();
        }
    }

    private void lookAtAll() throws IllegalAccessException {
        same("shared", true);
        same("shared", false);
        for (int rule = 0; rule < rules; rule++) {
            same("met", rule);
        }
        same("follows", kind(), value(), value(), value());
        int facts = sameNumber("facts");
        for (int place = facts - 1; place >= 0; place--) {
            int number = sameNumber("factAt", place);
            int supports = 0;
            for (int what = 0; what < 8; what++) {
                supports = sameNumber("fact", number, what);
            }
            for (int support = 0; support <= supports; support++) {
                for (int what = 0; what < 4; what++) {
                    same("why", number, support, what);
                }
            }
        }
    }
}
