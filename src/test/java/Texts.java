import java.util.ArrayList;
import java.util.List;
import java.util.Random;

/** Makes texts of rules and goal rules by chance, from a fixed seed: most of them are right, some are not. */
final class Texts {
    private static final String[] NUMBERS = {"0", "1", "2", "3", "-1", "02", "999", "-999", "500", "-0"};
    private final Random random;
    // The fewer kinds and the more blanks, the more matches: it is drawn for each run.
    private final int kinds;
    private final int blanks;
    private final StringBuilder text = new StringBuilder();
    private final List<Character> known = new ArrayList<>();
    private final List<Character> here = new ArrayList<>();
    private int positives;

    Texts(Random random) {
        this.random = random;
        kinds = 2 + random.nextInt(2);
        blanks = 35 + random.nextInt(35);
    }

    private boolean chance(int percent) {
        return random.nextInt(100) < percent;
    }

    private String number() {
        return NUMBERS[random.nextInt(chance(80) ? 4 : NUMBERS.length)];
    }

    private char kind() {
        return (char) ('a' + random.nextInt(chance(96) ? kinds : 8));
    }

    private char variable() {
        return (char) ('p' + random.nextInt(chance(90) ? 4 : 11));
    }

    private boolean isKnown(char variable) {
        return known.contains(variable) || here.contains(variable);
    }

    String rule() {
        text.setLength(0);
        known.clear();
        positives = 0;
        text.append(chance(70) ? 0 : random.nextInt(5) - 2).append(',').append(chance(70) ? 0 : random.nextInt(4));
        text.append(',').append(chance(60) ? 100 : random.nextInt(101)).append(':');
        int conditions = 1 + random.nextInt(chance(85) ? 3 : 4);
        for (int i = 0; i < conditions; i++) {
            condition(i == 0);
        }
        text.append("=>");
        int actions = 1 + random.nextInt(chance(80) ? 2 : 4);
        for (int i = 0; i < actions; i++) {
            action();
        }
        return chance(5) ? broken(text.toString()) : text.toString();
    }

    String goal() {
        known.clear();
        text.setLength(0);
        int patterns = 1 + random.nextInt(chance(90) ? 2 : 3);
        for (int i = 0; i < patterns; i++) {
            text.append(kind());
            for (int slot = 0; slot < 3; slot++) {
                text.append(slot == 0 ? '(' : ',');
                if (chance(30)) {
                    text.append('_');
                } else if (chance(30)) {
                    text.append(number());
                } else {
                    char variable = variable();
                    known.add(variable);
                    text.append(variable);
                }
            }
            text.append(')');
        }
        String body = text.toString();
        text.setLength(0);
        text.append(kind());
        for (int slot = 0; slot < 3; slot++) {
            text.append(slot == 0 ? '(' : ',');
            if (chance(70) && !known.isEmpty()) {
                text.append(known.get(random.nextInt(known.size())));
            } else {
                text.append(number());
            }
        }
        text.append("):").append(body);
        return chance(5) ? broken(text.toString()) : text.toString();
    }

    private void condition(boolean isFirst) {
        here.clear();
        int form = isFirst || chance(55) ? 0 : 1 + random.nextInt(4);
        if (form == 0) {
            pattern(true, false);
            known.addAll(here);
            positives++;
            return;
        }
        text.append("!?*$".charAt(form - 1));
        char variable = variable();
        if (form == 4) {
            for (int i = 0; i < 20 && known.contains(variable) && chance(95); i++) {
                variable = variable();
            }
            text.append(variable).append(':');
        }
        pattern(false, form == 4);
        if (form == 3) {
            pattern(false, false);
        }
        if (form == 4) {
            known.add(variable);
        }
    }

    private void pattern(boolean isPositive, boolean isSummed) {
        text.append(kind());
        int summed = isSummed ? random.nextInt(3) : -1;
        for (int slot = 0; slot < 3; slot++) {
            text.append(slot == 0 ? '(' : ',');
            slot(slot == summed);
        }
        text.append(')');
        if (chance(6)) {
            text.append('<').append(1 + random.nextInt(4));
        }
        if (chance(6) && (positives > 0 || chance(10))) {
            text.append('/').append(1 + random.nextInt(Math.max(1, positives)));
        }
    }

    private void slot(boolean isSummed) {
        if (isSummed) {
            text.append('@');
        } else if (chance(blanks)) {
            text.append('_');
        } else if (chance(60)) {
            char variable = variable();
            boolean isOld = isKnown(variable);
            if (isOld && chance(25) || chance(1)) {
                text.append("<>#".charAt(random.nextInt(3)));
            }
            text.append(variable);
            if (isOld && chance(25) || chance(1)) {
                text.append(chance(50) ? '+' : '-').append(number());
            }
            here.add(variable);
        } else {
            if (chance(30)) {
                text.append("<>#".charAt(random.nextInt(3)));
            }
            text.append(number());
        }
    }

    private void action() {
        int form = random.nextInt(100);
        if (form < 70) {
            text.append(form < 30 ? '+' : '&').append(kind());
            for (int slot = 0; slot < 3; slot++) {
                text.append(slot == 0 ? '(' : ',');
                expression(0);
            }
            text.append(')');
        } else if (form < 80) {
            text.append('-').append(place());
        } else if (form < 92) {
            text.append('~').append(place()).append('.').append(random.nextInt(chance(98) ? 3 : 5)).append('=');
            expression(0);
        } else {
            text.append('^').append(random.nextInt(chance(98) ? 4 : 6));
        }
    }

    private int place() {
        return chance(98) ? 1 + random.nextInt(Math.max(1, positives)) : random.nextInt(5);
    }

    private void expression(int depth) {
        factor(depth);
        while (chance(25)) {
            text.append("+-*".charAt(random.nextInt(3)));
            factor(depth);
        }
    }

    private void factor(int depth) {
        if (chance(60) && !known.isEmpty()) {
            text.append(chance(99) ? known.get(random.nextInt(known.size())) : variable());
        } else if (depth < 3 && chance(15)) {
            text.append('T').append(random.nextInt(chance(98) ? 2 : 3)).append('(');
            expression(depth + 1);
            text.append(',');
            expression(depth + 1);
            text.append(')');
        } else {
            text.append(number());
        }
    }

    private String broken(String whole) {
        String signs = "abhiopqz_<>#!?*$@+-&~^.,:/=T()0123459 ";
        int at = random.nextInt(whole.length());
        String sign = String.valueOf(signs.charAt(random.nextInt(signs.length())));
        switch (random.nextInt(4)) {
            case 0:
                return whole.substring(0, at) + whole.substring(at + 1);
            case 1:
                return whole.substring(0, at) + sign + whole.substring(at);
            case 2:
                return whole.substring(0, at) + sign + whole.substring(at + 1);
            default:
                return whole.substring(0, at);
        }
    }
}
