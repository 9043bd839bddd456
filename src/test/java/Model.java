import java.util.ArrayList;
import java.util.Comparator;
import java.util.HashMap;
import java.util.HashSet;
import java.util.List;
import java.util.Map;
import java.util.Set;
import java.util.TreeMap;
import java.util.TreeSet;

/**
 * The document once more, as slow and as plain as can be, with the Java library: JoinNet is compared with it.
 * It shares no code with JoinNet: texts are interpreted whenever they are needed, and all matches are found anew.
 */
public final class Model {
    private static final int NONE = -1000;

    private static final class BadText extends RuntimeException {
        private static final long serialVersionUID = 1;
    }

    private record Support(String match, List<Integer> facts, int rule, int grade) { }

    private static final class Fact {
        int number;
        int kind;
        List<Integer> slots;
        int time;
        int life;
        int plain;
        List<Support> supports = new ArrayList<>();

        Fact copy() {
            Fact other = new Fact();
            other.number = number;
            other.kind = kind;
            other.slots = slots;
            other.time = time;
            other.life = life;
            other.plain = plain;
            other.supports = new ArrayList<>(supports);
            return other;
        }

        String content() {
            return kind + ":" + slots;
        }

        int grade() {
            int grade = plain < 0 ? 0 : plain;
            for (Support support : supports) {
                grade = together(grade, support.grade);
            }
            return grade;
        }
    }

    private static final class State {
        TreeMap<Integer, Fact> facts = new TreeMap<>();
        Set<String> fired = new HashSet<>();
        List<Integer> focus = new ArrayList<>(List.of(0));
        int now;
        int nextNumber;

        State copy() {
            State other = new State();
            for (Fact fact : facts.values()) {
                other.facts.put(fact.number, fact.copy());
            }
            other.fired = new HashSet<>(fired);
            other.focus = new ArrayList<>(focus);
            other.now = now;
            other.nextNumber = nextNumber;
            return other;
        }

        String whole() {
            TreeSet<String> contents = new TreeSet<>();
            for (Fact fact : facts.values()) {
                contents.add(fact.content());
            }
            return contents + " " + focus;
        }
    }

    private static final class Pattern {
        int kind;
        String[] slots = new String[3];
        Integer younger;
        int behind;

        String test() {
            StringBuilder text = new StringBuilder().append(kind);
            for (String slot : slots) {
                String sign = slot.isEmpty() || "<>#".indexOf(slot.charAt(0)) < 0 ? "=" : slot.substring(0, 1);
                String term = sign.equals("=") ? slot : slot.substring(1);
                boolean isNumber = term.matches("-?[0-9]+");
                text.append(';').append(isNumber ? sign + Integer.parseInt(term) : "_");
            }
            return text.toString();
        }
    }

    private static final class Condition {
        char form;
        char variable;
        Pattern first;
        Pattern second;
        String text;
    }

    private static final class Rule {
        int number;
        int rank;
        int unit;
        int grade;
        int special;
        List<Condition> conditions = new ArrayList<>();
        List<String> actions = new ArrayList<>();
    }

    private record Match(Rule rule, List<Fact> facts, Map<Character, Integer> values) {
        String key() {
            StringBuilder key = new StringBuilder().append(rule.number);
            for (Fact fact : facts) {
                key.append(',').append(fact.number);
            }
            return key.toString();
        }

        List<Integer> numbers() {
            List<Integer> numbers = new ArrayList<>();
            for (Fact fact : facts) {
                numbers.add(fact.number);
            }
            return numbers;
        }
    }

    private record Goal(int kind, String[] ends, List<Pattern> patterns) { }

    private record Row(int from, int to, int otherFrom, int otherTo, int outcome, int rank) { }

    private State state = new State();
    private String tape = "";
    private final List<Rule> rules = new ArrayList<>();
    private final List<Goal> goals = new ArrayList<>();
    private int nextRule;
    private List<State> past = new ArrayList<>();
    private int loop;
    private final List<List<Row>> tables = List.of(new ArrayList<>(), new ArrayList<>());
    private final int[] policies = new int[2];

    private static int together(int g, int h) {
        return Math.floorDiv(100 * g + 100 * h - g * h, 100);
    }

    private static void argument(boolean isFine) {
        if (!isFine) {
            throw new IllegalArgumentException();
        }
    }

    private static void index(boolean isFine) {
        if (!isFine) {
            throw new IndexOutOfBoundsException();
        }
    }

    private static void state(boolean isFine) {
        if (!isFine) {
            throw new IllegalStateException();
        }
    }

    private static boolean isIn(int value, int least, int most) {
        return value >= least && value <= most;
    }

    private static int clip(int value) {
        return Math.max(-999, Math.min(999, value));
    }

    // ---- texts

    private static final class Text {
        final String text;
        int at;

        Text(String text) {
            this.text = text;
        }

        char peek(int ahead) {
            return at + ahead < text.length() ? text.charAt(at + ahead) : 0;
        }

        boolean isNext(String signs) {
            return peek(0) != 0 && signs.indexOf(peek(0)) >= 0;
        }

        char one(String signs) {
            if (!isNext(signs)) {
                throw new BadText();
            }
            at++;
            return text.charAt(at - 1);
        }

        int number() {
            int start = at;
            if (peek(0) == '-') {
                at++;
            }
            int digits = 0;
            while (digits < 3 && Character.isDigit(peek(0)) && peek(0) < 128) {
                at++;
                digits++;
            }
            if (digits == 0) {
                throw new BadText();
            }
            return Integer.parseInt(text.substring(start, at));
        }

        boolean isOver() {
            return at == text.length();
        }
    }

    private static final String VARIABLES = "pqrstuvwxyz";
    private static final String DIGITS = "0123456789";

    /** Reads a slot; known are variables with a value, fresh takes those that get one here. */
    private static String slot(Text text, Set<Character> known, boolean isSummed) {
        int start = text.at;
        if (text.isNext("_") || isSummed && text.isNext("@")) {
            text.at++;
            return text.text.substring(start, text.at);
        }
        boolean isCompared = text.isNext("<>#");
        if (isCompared) {
            text.at++;
        }
        if (text.isNext(VARIABLES)) {
            char variable = text.one(VARIABLES);
            boolean isAlone = !text.isNext("+-");
            if (!isAlone) {
                text.at++;
                text.number();
            }
            if (!known.contains(variable)) {
                if (isCompared || !isAlone) {
                    throw new BadText();
                }
                known.add(variable);
            }
        } else {
            text.number();
        }
        return text.text.substring(start, text.at);
    }

    private static Pattern pattern(Text text, Set<Character> known, boolean isSummed, int positives) {
        Pattern pattern = new Pattern();
        pattern.kind = text.one("abcdefgh") - 'a';
        for (int i = 0; i < 3; i++) {
            text.one(i == 0 ? "(" : ",");
            pattern.slots[i] = slot(text, known, isSummed);
        }
        text.one(")");
        if (text.isNext("<")) {
            text.at++;
            pattern.younger = text.number();
        }
        if (text.isNext("/")) {
            text.at++;
            pattern.behind = text.one(DIGITS) - '0';
            if (!isIn(pattern.behind, 1, positives)) {
                throw new BadText();
            }
        }
        int sums = 0;
        for (String slot : pattern.slots) {
            sums += slot.equals("@") ? 1 : 0;
        }
        if (sums != (isSummed ? 1 : 0)) {
            throw new BadText();
        }
        return pattern;
    }

    private static int special(Pattern pattern) {
        int special = (pattern.younger != null ? 1 : 0) + (pattern.behind > 0 ? 1 : 0);
        for (String slot : pattern.slots) {
            special += slot.equals("_") ? 0 : 1;
        }
        return special;
    }

    private Rule parseRule(String whole) {
        Text text = new Text(whole);
        Rule rule = new Rule();
        rule.rank = text.number();
        text.one(",");
        rule.unit = text.one("0123") - '0';
        text.one(",");
        rule.grade = text.number();
        text.one(":");
        if (!isIn(rule.rank, -99, 99) || !isIn(rule.grade, 0, 100)) {
            throw new BadText();
        }
        Set<Character> known = new HashSet<>();
        int positives = 0;
        while (!text.isNext("=")) {
            int start = text.at;
            Condition condition = new Condition();
            condition.form = text.isNext("!?*$") ? text.one("!?*$") : '1';
            Set<Character> here = condition.form == '1' ? known : new HashSet<>(known);
            if (condition.form == '$') {
                condition.variable = text.one(VARIABLES);
                text.one(":");
                if (known.contains(condition.variable)) {
                    throw new BadText();
                }
            }
            condition.first = pattern(text, here, condition.form == '$', positives);
            rule.special += special(condition.first);
            if (condition.form == '*') {
                condition.second = pattern(text, here, false, positives);
                rule.special += special(condition.second);
            }
            if (condition.form == '$') {
                known.add(condition.variable);
            }
            positives += condition.form == '1' ? 1 : 0;
            condition.text = whole.substring(start, text.at);
            rule.conditions.add(condition);
        }
        text.one("=");
        text.one(">");
        Map<Character, Integer> zeros = new HashMap<>();
        for (char variable : known) {
            zeros.put(variable, 0);
        }
        while (!text.isOver()) {
            int start = text.at;
            action(text, zeros, positives);
            rule.actions.add(whole.substring(start, text.at));
        }
        boolean isFirstPositive = !rule.conditions.isEmpty() && rule.conditions.get(0).form == '1';
        if (!isFirstPositive || rule.conditions.size() > 4 || positives > 3 || !isIn(rule.actions.size(), 1, 4)) {
            throw new BadText();
        }
        return rule;
    }

    /** Reads an action; returns its sign, then what its digits and expressions are with these values. */
    private List<Integer> action(Text text, Map<Character, Integer> values, int positives) {
        List<Integer> parts = new ArrayList<>();
        char sign = text.one("+&-~^");
        parts.add((int) sign);
        if (sign == '^') {
            parts.add(text.one("0123") - '0');
        } else if (sign == '-' || sign == '~') {
            int place = text.one("123") - '0';
            if (place > positives) {
                throw new BadText();
            }
            parts.add(place);
            if (sign == '~') {
                text.one(".");
                parts.add(text.one("012") - '0');
                text.one("=");
                parts.add(expression(text, values));
            }
        } else {
            parts.add(text.one("abcdefgh") - 'a');
            for (int i = 0; i < 3; i++) {
                text.one(i == 0 ? "(" : ",");
                parts.add(expression(text, values));
            }
            text.one(")");
        }
        return parts;
    }

    private int expression(Text text, Map<Character, Integer> values) {
        int value = factor(text, values);
        while (text.isNext("+-*")) {
            char next = text.peek(1);
            boolean isFactor = Character.isDigit(next) || VARIABLES.indexOf(next) >= 0 || next == 'T'
                    || next == '-' && Character.isDigit(text.peek(2));
            if (!isFactor) {
                break;
            }
            char sign = text.one("+-*");
            int other = factor(text, values);
            value = clip(sign == '+' ? value + other : sign == '-' ? value - other : value * other);
        }
        return value;
    }

    private int factor(Text text, Map<Character, Integer> values) {
        if (text.isNext(VARIABLES)) {
            char variable = text.one(VARIABLES);
            if (!values.containsKey(variable)) {
                throw new BadText();
            }
            return values.get(variable);
        }
        if (text.isNext("T")) {
            text.at++;
            int table = text.one("01") - '0';
            text.one("(");
            int one = expression(text, values);
            text.one(",");
            int other = expression(text, values);
            text.one(")");
            int told = decide(table, one, other);
            return told == NONE ? 0 : told;
        }
        return text.number();
    }

    private Goal parseGoal(String whole) {
        Text text = new Text(whole);
        int kind = text.one("abcdefgh") - 'a';
        String[] ends = new String[3];
        for (int i = 0; i < 3; i++) {
            text.one(i == 0 ? "(" : ",");
            ends[i] = text.isNext(VARIABLES) ? "" + text.one(VARIABLES) : "" + text.number();
        }
        text.one(")");
        text.one(":");
        List<Pattern> patterns = new ArrayList<>();
        Set<Character> known = new HashSet<>();
        while (!text.isOver()) {
            Pattern pattern = pattern(text, known, false, 3);
            boolean isPlain = pattern.younger == null && pattern.behind == 0;
            for (String slot : pattern.slots) {
                isPlain &= slot.matches("_|[p-z]|-?[0-9]+");
            }
            if (!isPlain) {
                throw new BadText();
            }
            patterns.add(pattern);
        }
        for (String end : ends) {
            if (VARIABLES.contains(end) && !known.contains(end.charAt(0))) {
                throw new BadText();
            }
        }
        if (!isIn(patterns.size(), 1, 3)) {
            throw new BadText();
        }
        return new Goal(kind, ends, patterns);
    }

    // ---- matching

    /** The values with those that the fact brings, or null if it does not fit. */
    private Map<Character, Integer> fit(Pattern pattern, Fact fact, Map<Character, Integer> values, List<Fact> positives) {
        if (fact.kind != pattern.kind || pattern.younger != null && state.now - fact.time >= pattern.younger) {
            return null;
        }
        if (pattern.behind > 0 && fact.time <= positives.get(pattern.behind - 1).time) {
            return null;
        }
        return fitSlots(pattern, fact.slots, values);
    }

    private static Map<Character, Integer> fitSlots(Pattern pattern, List<Integer> slots, Map<Character, Integer> values) {
        Map<Character, Integer> mine = new HashMap<>(values);
        for (int i = 0; i < 3; i++) {
            String slot = pattern.slots[i];
            int value = slots.get(i);
            if (slot.equals("_") || slot.equals("@")) {
                continue;
            }
            if (slot.length() == 1 && VARIABLES.contains(slot) && !mine.containsKey(slot.charAt(0))) {
                mine.put(slot.charAt(0), value);
                continue;
            }
            char sign = slot.charAt(0);
            String term = "<>#".indexOf(sign) >= 0 ? slot.substring(1) : slot;
            int wanted = term(term, mine);
            boolean isFit = sign == '<' ? value < wanted : sign == '>' ? value > wanted
                    : sign == '#' ? value != wanted : value == wanted;
            if (!isFit) {
                return null;
            }
        }
        return mine;
    }

    private static int term(String term, Map<Character, Integer> values) {
        if (VARIABLES.indexOf(term.charAt(0)) < 0) {
            return Integer.parseInt(term);
        }
        int value = values.get(term.charAt(0));
        if (term.length() == 1) {
            return value;
        }
        int shift = Integer.parseInt(term.substring(2));
        return term.charAt(1) == '+' ? value + shift : value - shift;
    }

    private int deepest;

    private void search(Rule rule, int at, List<Fact> facts, Map<Character, Integer> values, List<Match> found) {
        deepest = Math.max(deepest, at);
        if (at == rule.conditions.size()) {
            found.add(new Match(rule, new ArrayList<>(facts), values));
            return;
        }
        Condition condition = rule.conditions.get(at);
        List<Map<Character, Integer>> fits = new ArrayList<>();
        List<Fact> fitting = new ArrayList<>();
        for (Fact fact : state.facts.values()) {
            Map<Character, Integer> fit = fit(condition.first, fact, values, facts);
            if (fit != null) {
                fits.add(fit);
                fitting.add(fact);
            }
        }
        switch (condition.form) {
            case '1':
                for (int i = 0; i < fits.size(); i++) {
                    facts.add(fitting.get(i));
                    search(rule, at + 1, facts, fits.get(i), found);
                    facts.remove(facts.size() - 1);
                }
                return;
            case '!':
                if (fits.isEmpty()) {
                    search(rule, at + 1, facts, values, found);
                }
                return;
            case '?':
                if (!fits.isEmpty()) {
                    search(rule, at + 1, facts, values, found);
                }
                return;
            case '*':
                for (Map<Character, Integer> fit : fits) {
                    boolean isPaired = false;
                    for (Fact fact : state.facts.values()) {
                        isPaired |= fit(condition.second, fact, fit, facts) != null;
                    }
                    if (!isPaired) {
                        return;
                    }
                }
                search(rule, at + 1, facts, values, found);
                return;
            default:
                int sum = 0;
                for (Fact fact : fitting) {
                    for (int i = 0; i < 3; i++) {
                        sum += condition.first.slots[i].equals("@") ? fact.slots.get(i) : 0;
                    }
                }
                Map<Character, Integer> more = new HashMap<>(values);
                more.put(condition.variable, clip(sum));
                search(rule, at + 1, facts, more, found);
        }
    }

    private List<Match> allMatches() {
        List<Match> found = new ArrayList<>();
        for (Rule rule : rules) {
            search(rule, 0, new ArrayList<>(), new HashMap<>(), found);
        }
        return found;
    }

    private List<Match> agendaOf(int unit) {
        List<Match> open = new ArrayList<>();
        for (Match match : allMatches()) {
            if (match.rule.unit == unit && !state.fired.contains(match.key())) {
                open.add(match);
            }
        }
        open.sort(Comparator.comparingInt((Match m) -> -m.rule.rank).thenComparing(Model::newness, Model::newer)
                .thenComparing(m -> -m.rule.special).thenComparing(m -> m.rule.number)
                .thenComparing(Match::numbers, Model::lower));
        return open;
    }

    private static List<Integer> newness(Match match) {
        List<Integer> numbers = match.numbers();
        numbers.sort(Comparator.reverseOrder());
        return numbers;
    }

    private static int newer(List<Integer> mine, List<Integer> other) {
        for (int i = 0; i < Math.min(mine.size(), other.size()); i++) {
            if (!mine.get(i).equals(other.get(i))) {
                return other.get(i) - mine.get(i);
            }
        }
        return other.size() - mine.size();
    }

    private static int lower(List<Integer> mine, List<Integer> other) {
        for (int i = 0; i < mine.size(); i++) {
            if (!mine.get(i).equals(other.get(i))) {
                return mine.get(i) - other.get(i);
            }
        }
        return 0;
    }

    // ---- settling

    private void settle() {
        while (true) {
            Set<String> holding = new HashSet<>();
            for (Match match : allMatches()) {
                holding.add(match.key());
            }
            state.fired.retainAll(holding);
            for (Fact fact : state.facts.values()) {
                fact.supports.removeIf(s -> !holding.contains(s.match));
            }
            Set<Integer> founded = new HashSet<>();
            int before;
            do {
                before = founded.size();
                for (Fact fact : state.facts.values()) {
                    boolean isFounded = fact.plain >= 0;
                    for (Support support : fact.supports) {
                        isFounded |= founded.containsAll(support.facts);
                    }
                    if (isFounded) {
                        founded.add(fact.number);
                    }
                }
            } while (founded.size() != before);
            Integer lowest = null;
            for (int number : state.facts.keySet()) {
                if (lowest == null && !founded.contains(number)) {
                    lowest = number;
                }
            }
            if (lowest == null) {
                return;
            }
            state.facts.remove(lowest);
        }
    }

    private Fact find(int kind, List<Integer> slots) {
        for (Fact fact : state.facts.values()) {
            if (fact.kind == kind && fact.slots.equals(slots)) {
                return fact;
            }
        }
        return null;
    }

    private Fact add(int kind, List<Integer> slots) {
        if (state.facts.size() == 20) {
            return null;
        }
        Fact fact = new Fact();
        fact.number = state.nextNumber++;
        fact.kind = kind;
        fact.slots = slots;
        fact.time = state.now;
        fact.life = NONE;
        fact.plain = -1;
        state.facts.put(fact.number, fact);
        return fact;
    }

    private Fact addPlain(int kind, List<Integer> slots, int grade) {
        Fact fact = find(kind, slots);
        if (fact != null) {
            fact.plain = fact.plain < 0 ? grade : together(fact.plain, grade);
            return fact;
        }
        fact = add(kind, slots);
        if (fact != null) {
            fact.plain = grade;
            settle();
        }
        return fact;
    }

    private void believe(Match match, int kind, List<Integer> slots, int grade) {
        boolean isHolding = false;
        for (Match other : allMatches()) {
            isHolding |= other.key().equals(match.key());
        }
        if (!isHolding) {
            return;
        }
        Fact fact = find(kind, slots);
        boolean isNew = fact == null;
        if (isNew) {
            fact = add(kind, slots);
        }
        if (fact == null) {
            return;
        }
        for (Support support : fact.supports) {
            if (support.match.equals(match.key())) {
                return;
            }
        }
        fact.supports.add(new Support(match.key(), match.numbers(), match.rule.number, grade));
        if (isNew) {
            settle();
        }
    }

    // ---- the face

    public int feed(long bytes, int n) {
        argument(isIn(n, 1, 8));
        state(tape.length() + n <= 160);
        StringBuilder more = new StringBuilder(tape);
        for (int i = 0; i < n; i++) {
            more.append((char) (bytes >>> 8 * i & 255));
        }
        tape = more.toString();
        return tape.length();
    }

    public int tell(int kind, int one, int two, int three, int grade, int life) {
        argument(isThing(kind, one, two, three));
        argument(isIn(grade, 0, 100) && (life == NONE || isIn(life, 1, 100)));
        List<Integer> slots = List.of(one, two, three);
        boolean isNew = find(kind, slots) == null;
        state(!isNew || state.facts.size() < 20);
        if (isNew) {
            // The life has to be there before it is settled.
            Fact fact = add(kind, slots);
            fact.plain = grade;
            fact.life = life;
            settle();
            return fact.number;
        }
        return addPlain(kind, slots, grade).number;
    }

    private static boolean isThing(int kind, int one, int two, int three) {
        return isIn(kind, 0, 7) && isIn(one, -999, 999) && isIn(two, -999, 999) && isIn(three, -999, 999);
    }

    public int drop(int fact) {
        index(state.facts.containsKey(fact));
        state.facts.remove(fact);
        settle();
        return state.facts.size();
    }

    public int pass(int ticks) {
        argument(isIn(ticks, 1, 100));
        for (int i = 0; i < ticks; i++) {
            state.now++;
            for (int number : new ArrayList<>(state.facts.keySet())) {
                Fact fact = state.facts.get(number);
                if (fact != null && fact.life != NONE && state.now >= fact.time + fact.life) {
                    state.facts.remove(number);
                    settle();
                }
            }
            settle();
        }
        return state.now;
    }

    public int facts() {
        return state.facts.size();
    }

    public int factAt(int place) {
        index(isIn(place, 0, state.facts.size() - 1));
        return new ArrayList<>(state.facts.keySet()).get(place);
    }

    public int fact(int fact, int what) {
        index(state.facts.containsKey(fact));
        argument(isIn(what, 0, 7));
        Fact told = state.facts.get(fact);
        int[] parts = {told.kind, told.slots.get(0), told.slots.get(1), told.slots.get(2), told.grade(), told.time,
            told.plain >= 0 ? 1 : 0, told.supports.size()};
        return parts[what];
    }

    public int rule() {
        String text = tape;
        tape = "";
        Rule rule = null;
        try {
            rule = parseRule(text);
        } catch (BadText e) {
            state(false);
        }
        state(rules.size() < 10);
        rule.number = nextRule++;
        rules.add(rule);
        past.clear();
        return rule.number;
    }

    private Rule ruleOf(int number) {
        for (Rule rule : rules) {
            if (rule.number == number) {
                return rule;
            }
        }
        throw new IndexOutOfBoundsException();
    }

    public void dropRule(int rule) {
        rules.remove(ruleOf(rule));
        past.clear();
        settle();
    }

    public int matches() {
        return allMatches().size();
    }

    public int met(int rule) {
        deepest = 0;
        search(ruleOf(rule), 0, new ArrayList<>(), new HashMap<>(), new ArrayList<>());
        return deepest;
    }

    public int shared(boolean isJoined) {
        Set<String> unlike = new HashSet<>();
        for (Rule rule : rules) {
            StringBuilder text = new StringBuilder();
            for (Condition condition : rule.conditions) {
                text.append(condition.text);
                if (isJoined) {
                    unlike.add(text.toString());
                } else {
                    unlike.add(condition.first.test());
                    if (condition.second != null) {
                        unlike.add(condition.second.test());
                    }
                }
            }
        }
        return unlike.size();
    }

    public int focus(int unit) {
        argument(isIn(unit, 0, 3));
        state(state.focus.size() < 8);
        state.focus.add(unit);
        return state.focus.size();
    }

    public int agenda() {
        return agendaOf(state.focus.get(state.focus.size() - 1)).size();
    }

    public int next(int what) {
        argument(isIn(what, 0, 3));
        for (int i = state.focus.size() - 1; i >= 0; i--) {
            List<Match> agenda = agendaOf(state.focus.get(i));
            if (!agenda.isEmpty()) {
                Match match = agenda.get(0);
                return what == 0 ? match.rule.number : what > match.facts.size() ? NONE : match.numbers().get(what - 1);
            }
        }
        return NONE;
    }

    public int fire() {
        State before = state.copy();
        Match match = null;
        while (match == null) {
            List<Match> agenda = agendaOf(state.focus.get(state.focus.size() - 1));
            if (!agenda.isEmpty()) {
                match = agenda.get(0);
            } else if (state.focus.size() > 1) {
                state.focus.remove(state.focus.size() - 1);
            } else {
                return NONE;
            }
        }
        past.add(before);
        if (past.size() > 6) {
            past.remove(0);
        }
        state.fired.add(match.key());
        int least = 100;
        for (Fact fact : match.facts) {
            least = Math.min(least, fact.grade());
        }
        for (String action : match.rule.actions) {
            act(match, action(new Text(action), match.values, 3), least * match.rule.grade / 100);
        }
        return match.rule.number;
    }

    private void act(Match match, List<Integer> parts, int grade) {
        int operand = parts.get(1);
        switch ((char) (int) parts.get(0)) {
            case '+' -> addPlain(operand, parts.subList(2, 5), grade);
            case '&' -> believe(match, operand, parts.subList(2, 5), grade);
            case '^' -> {
                if (state.focus.size() < 8) {
                    state.focus.add(operand);
                }
            }
            default -> {
                int number = match.facts.get(operand - 1).number;
                Fact fact = state.facts.get(number);
                if (fact != null) {
                    int its = fact.grade();
                    state.facts.remove(number);
                    settle();
                    if (parts.size() > 2) {
                        List<Integer> slots = new ArrayList<>(fact.slots);
                        slots.set(parts.get(2), parts.get(3));
                        addPlain(fact.kind, slots, its);
                    }
                }
            }
        }
    }

    public int run(int most) {
        argument(isIn(most, 1, 50));
        List<String> states = new ArrayList<>(List.of(state.whole()));
        loop = 0;
        int times = 0;
        while (times < most && loop == 0 && fire() != NONE) {
            times++;
            String whole = state.whole();
            if (states.contains(whole)) {
                loop = times - states.indexOf(whole);
            }
            states.add(whole);
        }
        return times;
    }

    public int loop() {
        return loop;
    }

    public boolean wouldBe(int most, int kind, int one, int two, int three) {
        argument(isIn(most, 1, 50) && isThing(kind, one, two, three));
        State before = state.copy();
        List<State> kept = new ArrayList<>(past);
        int latest = loop;
        run(most);
        boolean isThere = find(kind, List.of(one, two, three)) != null;
        state = before;
        past = kept;
        loop = latest;
        return isThere;
    }

    public int takeBack(int many) {
        argument(isIn(many, 1, 6));
        state(many <= past.size());
        for (int i = 0; i < many; i++) {
            state = past.remove(past.size() - 1);
        }
        return past.size();
    }

    public int why(int fact, int support, int what) {
        index(state.facts.containsKey(fact));
        List<Support> supports = state.facts.get(fact).supports;
        index(isIn(support, 0, supports.size() - 1));
        argument(isIn(what, 0, 3));
        Support told = supports.get(support);
        return what == 0 ? told.rule : what > told.facts.size() ? NONE : told.facts.get(what - 1);
    }

    public int goal() {
        String text = tape;
        tape = "";
        Goal goal = null;
        try {
            goal = parseGoal(text);
        } catch (BadText e) {
            state(false);
        }
        state(goals.size() < 6);
        goals.add(goal);
        return goals.size();
    }

    public boolean follows(int kind, int one, int two, int three) {
        argument(isThing(kind, one, two, three));
        Set<List<Integer>> things = new HashSet<>();
        for (Fact fact : state.facts.values()) {
            things.add(List.of(fact.kind, fact.slots.get(0), fact.slots.get(1), fact.slots.get(2)));
        }
        int before;
        do {
            before = things.size();
            Set<List<Integer>> more = new HashSet<>();
            for (Goal goal : goals) {
                derive(goal, 0, new HashMap<>(), things, more);
            }
            things.addAll(more);
            state(things.size() <= 150);
        } while (things.size() != before);
        return things.contains(List.of(kind, one, two, three));
    }

    private static void derive(Goal goal, int at, Map<Character, Integer> values, Set<List<Integer>> things,
            Set<List<Integer>> more) {
        if (at == goal.patterns.size()) {
            List<Integer> thing = new ArrayList<>(List.of(goal.kind));
            for (String end : goal.ends) {
                thing.add(term(end, values));
            }
            more.add(thing);
            return;
        }
        for (List<Integer> thing : things) {
            Pattern pattern = goal.patterns.get(at);
            if (thing.get(0) == pattern.kind) {
                Map<Character, Integer> fit = fitSlots(pattern, thing.subList(1, 4), values);
                if (fit != null) {
                    derive(goal, at + 1, fit, things, more);
                }
            }
        }
    }

    // ---- tables

    public int policy(int table, int policy) {
        index(isIn(table, 0, 1));
        argument(isIn(policy, 0, 3));
        int before = policies[table];
        policies[table] = policy;
        return before;
    }

    public int row(int table, int from, int to, int otherFrom, int otherTo, int outcome, int rank) {
        index(isIn(table, 0, 1));
        argument(isIn(from, 0, 9) && isIn(to, from, 9) && isIn(otherFrom, 0, 9) && isIn(otherTo, otherFrom, 9));
        argument(isIn(outcome, -99, 99) && isIn(rank, 0, 9));
        state(tables.get(table).size() < 8);
        tables.get(table).add(new Row(from, to, otherFrom, otherTo, outcome, rank));
        return tables.get(table).size();
    }

    private List<Row> hits(int table, int one, int other) {
        List<Row> hits = new ArrayList<>();
        for (Row row : tables.get(table)) {
            if (isIn(one, row.from, row.to) && isIn(other, row.otherFrom, row.otherTo)) {
                hits.add(row);
            }
        }
        return hits;
    }

    private int decide(int table, int one, int other) {
        List<Row> hits = hits(table, one, other);
        if (hits.isEmpty() || policies[table] == 0 && hits.size() > 1) {
            return NONE;
        }
        if (policies[table] == 3) {
            return hits.stream().mapToInt(Row::outcome).sum();
        }
        if (policies[table] == 2) {
            // Stable, so the first one of the greatest rank stays in front.
            hits.sort(Comparator.comparingInt(row -> -row.rank));
        }
        return hits.get(0).outcome;
    }

    public int outcome(int table, int one, int other) {
        index(isIn(table, 0, 1));
        argument(isIn(one, -999, 999) && isIn(other, -999, 999));
        return decide(table, one, other);
    }

    public int hole(int table, boolean isOverlap) {
        index(isIn(table, 0, 1));
        for (int one = 0; one < 10; one++) {
            for (int other = 0; other < 10; other++) {
                int hits = hits(table, one, other).size();
                if (isOverlap && hits > 1 || !isOverlap && hits == 0) {
                    return 10 * one + other;
                }
            }
        }
        return NONE;
    }
}
