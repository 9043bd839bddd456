import java.util.Arrays;

/** A mill of rules that fire on facts; what each call does is told by the document, ../shared/DOC.md. */
public final class JoinNet {
    public static final int NONE = -1000;
    public static final int ONE = 0, FIRST = 1, RANK = 2, SUM = 3;

    private static final int MOST_FACTS = 20;
    private static final int MOST_RULES = 10;
    private static final int MOST_UNITS = 8;
    private static final int MOST_FACTS_OF_MATCH = 3;
    private static final int MOST_GOALS = 6;
    private static final int MOST_ROWS = 8;
    private static final int MOST_FIRINGS = 50;
    private static final int MOST_BACK = 6;
    private static final int VARIABLES = 11;
    private static final int TAPE = 160;
    private static final int BOUND = 999;

    // A match is known by one number: its rule's slot, then the places of its facts, 20 for each.
    private static final int MATCHES_OF_RULE = MOST_FACTS * MOST_FACTS * MOST_FACTS;
    private static final int ALL_MATCHES = MOST_RULES * MATCHES_OF_RULE;

    private final Reader reader;
    private final Mill mill;
    private final Goals goals;

    public JoinNet() {
        reader = new Reader();
        mill = new Mill();
        goals = new Goals();
    }

    public int feed(long bytes, int n) throws IllegalArgumentException, IllegalStateException {
        if (!isWithin(n, 1, 8)) {
            throw new IllegalArgumentException("n is 1 to 8");
        }
        if (!reader.hasRoom(n)) {
            throw new IllegalStateException("the tape has 160 bytes at most");
        }
        return reader.put(bytes, n);
    }

    // ---- facts and time

    public int tell(int kind, int one, int two, int three, int grade, int life)
            throws IllegalArgumentException, IllegalStateException {
        boolean isLife = life == NONE || isWithin(life, 1, 100);
        if (!isThing(kind, one, two, three) || !isWithin(grade, 0, 100) || !isLife) {
            throw new IllegalArgumentException("no such fact can be told");
        }
        int number = mill.takeFact(kind, one, two, three, grade, life);
        if (number < 0) {
            throw new IllegalStateException("20 facts are there");
        }
        return number;
    }

    public int drop(int fact) throws IndexOutOfBoundsException {
        int place = mill.live.placeOf(fact);
        if (place < 0) {
            throw new IndexOutOfBoundsException("no such fact");
        }
        mill.letGo(place);
        return mill.live.count;
    }

    public int pass(int ticks) throws IllegalArgumentException {
        if (!isWithin(ticks, 1, 100)) {
            throw new IllegalArgumentException("ticks is 1 to 100");
        }
        for (int i = 0; i < ticks; i++) {
            mill.tick();
        }
        return mill.live.now;
    }

    public int facts() {
        return mill.live.count;
    }

    public int factAt(int place) throws IndexOutOfBoundsException {
        if (place < 0 || place >= mill.live.count) {
            throw new IndexOutOfBoundsException("no such place");
        }
        return mill.live.numberInOrder(place);
    }

    public int fact(int fact, int what) throws IndexOutOfBoundsException, IllegalArgumentException {
        Moment live = mill.live;
        int place = live.placeOf(fact);
        if (place < 0) {
            throw new IndexOutOfBoundsException("no such fact");
        }
        switch (what) {
            case 0:
                return live.kind[place];
            case 1:
            case 2:
            case 3:
                return live.slots[3 * place + what - 1];
            case 4:
                return live.gradeOf(place);
            case 5:
                return live.time[place];
            case 6:
                return live.plain[place] >= 0 ? 1 : 0;
            case 7:
                return live.supportsOf(place);
            default:
                throw new IllegalArgumentException("what is 0 to 7");
        }
    }

    // ---- rules

    public int rule() throws IllegalStateException {
        int slot = mill.freeSlot();
        boolean isRule = reader.readsRule(mill.rules[slot]);
        if (!isRule || slot == MOST_RULES) {
            throw new IllegalStateException("no rule on the tape, or 10 rules are there");
        }
        return mill.takeRule(slot);
    }

    public void dropRule(int rule) throws IndexOutOfBoundsException {
        int slot = mill.slotOf(rule);
        if (slot < 0) {
            throw new IndexOutOfBoundsException("no such rule");
        }
        mill.forgetRule(slot);
    }

    public int matches() {
        mill.matcher.survey(NONE);
        return mill.matcher.matchCount;
    }

    public int met(int rule) throws IndexOutOfBoundsException {
        int slot = mill.slotOf(rule);
        if (slot < 0) {
            throw new IndexOutOfBoundsException("no such rule");
        }
        return mill.matcher.reach(slot);
    }

    public int shared(boolean isJoined) {
        return isJoined ? mill.countBeginnings() : mill.countTests();
    }

    // ---- firing

    public int focus(int unit) throws IllegalArgumentException, IllegalStateException {
        if (!isWithin(unit, 0, 3)) {
            throw new IllegalArgumentException("unit is 0 to 3");
        }
        if (!mill.live.addUnit(unit)) {
            throw new IllegalStateException("the focus has 8 units at most");
        }
        return mill.live.unitCount;
    }

    public int agenda() {
        mill.matcher.survey(mill.live.lastUnit());
        return mill.matcher.openCount;
    }

    public int next(int what) throws IllegalArgumentException {
        if (!isWithin(what, 0, MOST_FACTS_OF_MATCH)) {
            throw new IllegalArgumentException("what is 0 to 3");
        }
        int height = mill.matcher.findNext();
        return height == 0 ? NONE : mill.partOf(mill.matcher.bestId, what);
    }

    public int fire() {
        return mill.fireNext(true) ? mill.partOf(mill.firing, 0) : NONE;
    }

    public int run(int most) throws IllegalArgumentException {
        if (!isWithin(most, 1, MOST_FIRINGS)) {
            throw new IllegalArgumentException("most is 1 to 50");
        }
        return mill.runAtMost(most, true);
    }

    public int loop() {
        return mill.loopLength;
    }

    public boolean wouldBe(int most, int kind, int one, int two, int three) throws IllegalArgumentException {
        if (!isWithin(most, 1, MOST_FIRINGS) || !isThing(kind, one, two, three)) {
            throw new IllegalArgumentException("most is 1 to 50, and there is no such fact");
        }
        mill.aside.copyFrom(mill.live);
        mill.runAtMost(most, false);
        boolean isThere = mill.live.find(kind, one, two, three) >= 0;
        mill.restore(mill.aside);
        return isThere;
    }

    public int takeBack(int many) throws IllegalArgumentException, IllegalStateException {
        if (!isWithin(many, 1, MOST_BACK)) {
            throw new IllegalArgumentException("many is 1 to 6");
        }
        if (many > mill.pastCount) {
            throw new IllegalStateException("not so many firings can be taken back");
        }
        return mill.goBack(many);
    }

    public int why(int fact, int support, int what) throws IndexOutOfBoundsException, IllegalArgumentException {
        int place = mill.live.placeOf(fact);
        int match = place < 0 ? -1 : mill.live.supportingMatch(place, support);
        if (match < 0) {
            throw new IndexOutOfBoundsException("no such fact, or no such support");
        }
        if (!isWithin(what, 0, MOST_FACTS_OF_MATCH)) {
            throw new IllegalArgumentException("what is 0 to 3");
        }
        return mill.partOf(match, what);
    }

    // ---- goals and tables

    public int goal() throws IllegalStateException {
        boolean isGoal = reader.readsGoal(goals.rules[goals.count]);
        if (!isGoal || goals.count == MOST_GOALS) {
            throw new IllegalStateException("no goal rule on the tape, or 6 are there");
        }
        goals.count++;
        return goals.count;
    }

    public boolean follows(int kind, int one, int two, int three)
            throws IllegalArgumentException, IllegalStateException {
        if (!isThing(kind, one, two, three)) {
            throw new IllegalArgumentException("there is no such thing");
        }
        if (!goals.closes(mill.live)) {
            throw new IllegalStateException("more than 150 things follow");
        }
        return goals.has(kind, one, two, three);
    }

    public int policy(int table, int policy) throws IndexOutOfBoundsException, IllegalArgumentException {
        if (!isWithin(table, 0, 1)) {
            throw new IndexOutOfBoundsException("no such table");
        }
        if (!isWithin(policy, ONE, SUM)) {
            throw new IllegalArgumentException("policy is ONE to SUM");
        }
        int before = mill.tables[table].policy;
        mill.tables[table].policy = policy;
        return before;
    }

    public int row(int table, int from, int to, int otherFrom, int otherTo, int outcome, int rank)
            throws IndexOutOfBoundsException, IllegalArgumentException, IllegalStateException {
        if (!isWithin(table, 0, 1)) {
            throw new IndexOutOfBoundsException("no such table");
        }
        boolean isRange = isWithin(from, 0, 9) && isWithin(to, from, 9);
        boolean isOtherRange = isWithin(otherFrom, 0, 9) && isWithin(otherTo, otherFrom, 9);
        if (!isRange || !isOtherRange || !isWithin(outcome, -99, 99) || !isWithin(rank, 0, 9)) {
            throw new IllegalArgumentException("no such row can be put");
        }
        Table target = mill.tables[table];
        if (target.count >= MOST_ROWS) {
            throw new IllegalStateException("the table has 8 rows at most");
        }
        int at = target.add(outcome, rank);
        target.setRanges(at, from, to, otherFrom, otherTo);
        return target.count;
    }

    public int outcome(int table, int one, int other) throws IndexOutOfBoundsException, IllegalArgumentException {
        if (!isWithin(table, 0, 1)) {
            throw new IndexOutOfBoundsException("no such table");
        }
        if (!isWithin(one, -BOUND, BOUND) || !isWithin(other, -BOUND, BOUND)) {
            throw new IllegalArgumentException("a value is -999 to 999");
        }
        return mill.tables[table].decide(one, other);
    }

    public int hole(int table, boolean isOverlap) throws IndexOutOfBoundsException {
        if (!isWithin(table, 0, 1)) {
            throw new IndexOutOfBoundsException("no such table");
        }
        return mill.tables[table].firstFault(isOverlap);
    }

    private static boolean isWithin(int value, int least, int most) {
        return value >= least && value <= most;
    }

    private static boolean isThing(int kind, int one, int two, int three) {
        return isWithin(kind, 0, 7) && isWithin(one, -BOUND, BOUND) && isWithin(two, -BOUND, BOUND)
                && isWithin(three, -BOUND, BOUND);
    }

    private static int nearest(int value) {
        return value > BOUND ? BOUND : value < -BOUND ? -BOUND : value;
    }

    private static int combine(int grade, int other) {
        return (100 * (grade + other) - grade * other) / 100;
    }

    private static long keyOf(int kind, int one, int two, int three) {
        // Never 0, so that 0 can stand for "none" where keys are kept.
        return (((kind * 2048L + one + 1000) * 2048L) + two + 1000) * 2048L + three + 1001;
    }

    /** Which place the fact of a match's positive condition has; match is the number of the match. */
    private static int placeIn(int match, int condition) {
        int shifted = condition == 0 ? match / (MOST_FACTS * MOST_FACTS) : condition == 1 ? match / MOST_FACTS : match;
        return shifted % MOST_FACTS;
    }

    /** What a fact must be like. Which variable gets a value where is known when the text is read. */
    private static final class Pattern {
        static final int ANY = 0, BIND = 1, SAME = 2, LESS = 3, MORE = 4, OTHER = 5;
        // No fact gets as old as that in all calls of an object.
        static final int ANY_AGE = 1_000_000_000;

        int kind;
        final int[] test = new int[3];
        final int[] variable = new int[3];
        final int[] number = new int[3];
        int summed;
        int youngerThan;
        int behind;

        void clear(int newKind) {
            kind = newKind;
            summed = -1;
            youngerThan = ANY_AGE;
            behind = -1;
        }

        void set(int slot, int newTest, int newVariable, int newNumber) {
            test[slot] = newTest;
            variable[slot] = newVariable;
            number[slot] = newNumber;
        }

        boolean isSetByNumber(int slot) {
            return test[slot] >= SAME && variable[slot] < 0;
        }

        boolean testsLike(Pattern other) {
            if (kind != other.kind) {
                return false;
            }
            for (int slot = 0; slot < 3; slot++) {
                boolean isSet = isSetByNumber(slot);
                if (isSet != other.isSetByNumber(slot)) {
                    return false;
                }
                if (isSet && (test[slot] != other.test[slot] || number[slot] != other.number[slot])) {
                    return false;
                }
            }
            return true;
        }
    }

    private static final class Condition {
        static final int POSITIVE = 0, NOT = 1, EXISTS = 2, ALL = 3, TOTAL = 4;

        int form;
        final Pattern first;
        final Pattern second;
        int variable;
        int place;

        Condition() {
            first = new Pattern();
            second = new Pattern();
        }
    }

    /** An action; its form is the sign that it begins with. Its expressions lie in its rule's code. */
    private static final class Action {
        int form;
        int kind;
        int place;
        int slot;
        int unit;
        final int[] ends = new int[4];
    }

    private static final class Rule {
        static final int MOST_CONDITIONS = 4, MOST_ACTIONS = 4;
        // The code of expressions, operands ahead of operators: an operation in 3 bits, its operand above them.
        static final int NUMBER = 0, VALUE = 1, ADD = 2, SUBTRACT = 3, MULTIPLY = 4, TABLE = 5;
        static final int SHIFT = 3, MASK = 7;

        int number;
        int rank;
        int unit;
        int grade;
        int special;
        final Condition[] conditions = new Condition[MOST_CONDITIONS];
        int conditionCount;
        int positives;
        final Action[] actions = new Action[MOST_ACTIONS];
        int actionCount;
        final int[] code = new int[TAPE];
        int codeLength;
        final int[] text = new int[TAPE];
        final int[] textEnds = new int[MOST_CONDITIONS];

        Rule() {
            number = -1;
            for (int i = 0; i < MOST_CONDITIONS; i++) {
                conditions[i] = new Condition();
            }
            for (int i = 0; i < MOST_ACTIONS; i++) {
                actions[i] = new Action();
            }
        }

        void clear() {
            conditionCount = 0;
            actionCount = 0;
            codeLength = 0;
        }

        boolean beginsLike(int conditionsOfMine, Rule other, int conditionsOfOther) {
            int length = textEnds[conditionsOfMine - 1];
            if (length != other.textEnds[conditionsOfOther - 1]) {
                return false;
            }
            for (int i = 0; i < length; i++) {
                if (text[i] != other.text[i]) {
                    return false;
                }
            }
            return true;
        }
    }

    private static final class GoalRule {
        static final int MOST_PATTERNS = 3;

        final Pattern head;
        final Pattern[] patterns = new Pattern[MOST_PATTERNS];
        int patternCount;

        GoalRule() {
            head = new Pattern();
            for (int i = 0; i < MOST_PATTERNS; i++) {
                patterns[i] = new Pattern();
            }
        }
    }

    private static final class Table {
        private final int[] from = new int[MOST_ROWS];
        private final int[] to = new int[MOST_ROWS];
        private final int[] otherFrom = new int[MOST_ROWS];
        private final int[] otherTo = new int[MOST_ROWS];
        private final int[] result = new int[MOST_ROWS];
        private final int[] rank = new int[MOST_ROWS];
        int count;
        int policy;

        /** Puts a row behind, if there is room; returns its index. */
        int add(int newResult, int newRank) {
            int at = count < MOST_ROWS ? count : MOST_ROWS - 1;
            result[at] = newResult;
            rank[at] = newRank;
            count = at + 1;
            return at;
        }

        void setRanges(int at, int newFrom, int newTo, int newOtherFrom, int newOtherTo) {
            from[at] = newFrom;
            to[at] = newTo;
            otherFrom[at] = newOtherFrom;
            otherTo[at] = newOtherTo;
        }

        private boolean hits(int at, int one, int other) {
            return one >= from[at] && one <= to[at] && other >= otherFrom[at] && other <= otherTo[at];
        }

        private int countHits(int one, int other) {
            int hits = 0;
            for (int at = 0; at < count; at++) {
                if (hits(at, one, other)) {
                    hits++;
                }
            }
            return hits;
        }

        int decide(int one, int other) {
            int hits = 0;
            int best = -1;
            int sum = 0;
            for (int at = 0; at < count; at++) {
                if (hits(at, one, other)) {
                    hits++;
                    sum += result[at];
                    if (best < 0 || policy == RANK && rank[at] > rank[best]) {
                        best = at;
                    }
                }
            }
            if (best < 0 || policy == ONE && hits > 1) {
                return NONE;
            }
            return policy == SUM ? sum : result[best];
        }

        int firstFault(boolean isOverlap) {
            for (int pair = 0; pair < 100; pair++) {
                int hits = countHits(pair / 10, pair % 10);
                if (isOverlap ? hits > 1 : hits == 0) {
                    return pair;
                }
            }
            return NONE;
        }
    }

    /** All that a firing that is taken back brings back: facts with their reasons, what was fired, focus and time. */
    private static final class Moment {
        // A support is one number: its match, then 5 bits for the place of its fact, and 7 for its grade.
        private static final int MATCH_SHIFT = 12, PLACE_SHIFT = 7, PLACE_MASK = 31, GRADE_MASK = 127;

        final int[] number = new int[MOST_FACTS];
        final int[] kind = new int[MOST_FACTS];
        final int[] slots = new int[3 * MOST_FACTS];
        final int[] time = new int[MOST_FACTS];
        final int[] life = new int[MOST_FACTS];
        final int[] plain = new int[MOST_FACTS];
        final int[] units = new int[MOST_UNITS];
        int[] fired = new int[32];
        int[] supports = new int[32];
        int unitCount;
        int firedCount;
        int supportCount;
        int count;
        int now;
        int nextNumber;

        Moment() {
            for (int place = 0; place < MOST_FACTS; place++) {
                number[place] = -1;
            }
            unitCount = 1;
        }

        void copyFrom(Moment other) {
            System.arraycopy(other.number, 0, number, 0, MOST_FACTS);
            System.arraycopy(other.kind, 0, kind, 0, MOST_FACTS);
            System.arraycopy(other.slots, 0, slots, 0, 3 * MOST_FACTS);
            System.arraycopy(other.time, 0, time, 0, MOST_FACTS);
            System.arraycopy(other.life, 0, life, 0, MOST_FACTS);
            System.arraycopy(other.plain, 0, plain, 0, MOST_FACTS);
            System.arraycopy(other.units, 0, units, 0, MOST_UNITS);
            if (fired.length < other.firedCount) {
                fired = new int[other.fired.length];
            }
            System.arraycopy(other.fired, 0, fired, 0, other.firedCount);
            if (supports.length < other.supportCount) {
                supports = new int[other.supports.length];
            }
            System.arraycopy(other.supports, 0, supports, 0, other.supportCount);
            unitCount = other.unitCount;
            firedCount = other.firedCount;
            supportCount = other.supportCount;
            count = other.count;
            now = other.now;
            nextNumber = other.nextNumber;
        }

        int placeOf(int wanted) {
            for (int place = 0; place < MOST_FACTS; place++) {
                if (wanted >= 0 && number[place] == wanted) {
                    return place;
                }
            }
            return -1;
        }

        int find(int wantedKind, int one, int two, int three) {
            for (int place = 0; place < MOST_FACTS; place++) {
                int at = 3 * place;
                boolean isAlike = slots[at] == one && slots[at + 1] == two && slots[at + 2] == three;
                if (isAlike && number[place] >= 0 && kind[place] == wantedKind) {
                    return place;
                }
            }
            return -1;
        }

        int numberInOrder(int rankOfNumber) {
            for (int place = 0; place < MOST_FACTS; place++) {
                int lower = 0;
                for (int other = 0; other < MOST_FACTS; other++) {
                    if (number[other] >= 0 && number[other] < number[place]) {
                        lower++;
                    }
                }
                if (number[place] >= 0 && lower == rankOfNumber) {
                    return number[place];
                }
            }
            return NONE;
        }

        /** Adds a fact that has no reasons yet, and returns its place; -1 if there is no room. */
        int add(int newKind, int one, int two, int three) {
            for (int place = 0; place < MOST_FACTS; place++) {
                if (number[place] < 0) {
                    number[place] = nextNumber;
                    kind[place] = newKind;
                    slots[3 * place] = one;
                    slots[3 * place + 1] = two;
                    slots[3 * place + 2] = three;
                    time[place] = now;
                    life[place] = NONE;
                    plain[place] = -1;
                    nextNumber++;
                    count++;
                    return place;
                }
            }
            return -1;
        }

        void remove(int place) {
            number[place] = -1;
            count--;
            int kept = 0;
            for (int i = 0; i < supportCount; i++) {
                if ((supports[i] >> PLACE_SHIFT & PLACE_MASK) != place) {
                    supports[kept] = supports[i];
                    kept++;
                }
            }
            supportCount = kept;
        }

        void addPlain(int place, int grade) {
            plain[place] = plain[place] < 0 ? grade : combine(plain[place], grade);
        }

        void addSupport(int place, int match, int grade) {
            for (int i = 0; i < supportCount; i++) {
                if (supports[i] >> PLACE_SHIFT == (match << MATCH_SHIFT - PLACE_SHIFT | place)) {
                    return;
                }
            }
            if (supportCount == supports.length) {
                supports = Arrays.copyOf(supports, 2 * supportCount);
            }
            supports[supportCount] = match << MATCH_SHIFT | place << PLACE_SHIFT | grade;
            supportCount++;
        }

        void addFired(int match) {
            if (firedCount == fired.length) {
                fired = Arrays.copyOf(fired, 2 * firedCount);
            }
            fired[firedCount] = match;
            firedCount++;
        }

        int gradeOf(int place) {
            int grade = plain[place] < 0 ? 0 : plain[place];
            for (int i = 0; i < supportCount; i++) {
                if ((supports[i] >> PLACE_SHIFT & PLACE_MASK) == place) {
                    grade = combine(grade, supports[i] & GRADE_MASK);
                }
            }
            return grade;
        }

        int supportsOf(int place) {
            int many = 0;
            for (int i = 0; i < supportCount; i++) {
                if ((supports[i] >> PLACE_SHIFT & PLACE_MASK) == place) {
                    many++;
                }
            }
            return many;
        }

        /** The match of the fact's support with this index; -1 if it has none. */
        int supportingMatch(int place, int index) {
            int passed = 0;
            for (int i = 0; i < supportCount; i++) {
                if ((supports[i] >> PLACE_SHIFT & PLACE_MASK) == place) {
                    if (passed == index) {
                        return supports[i] >> MATCH_SHIFT;
                    }
                    passed++;
                }
            }
            return -1;
        }

        boolean addUnit(int unit) {
            if (unitCount >= MOST_UNITS) {
                return false;
            }
            units[unitCount] = unit;
            unitCount++;
            return true;
        }

        int lastUnit() {
            return units[unitCount - 1];
        }

        /** The place of the fact with the lowest number whose life is over; -1 if there is none. */
        int firstExpired() {
            int first = -1;
            for (int place = 0; place < MOST_FACTS; place++) {
                boolean isOver = number[place] >= 0 && life[place] != NONE && now - time[place] >= life[place];
                if (isOver && (first < 0 || number[place] < number[first])) {
                    first = place;
                }
            }
            return first;
        }

        /** The places of the facts with a plain reason, or without any fact, as bits. */
        int plainPlaces() {
            int places = 0;
            for (int place = 0; place < MOST_FACTS; place++) {
                if (number[place] < 0 || plain[place] >= 0) {
                    places |= 1 << place;
                }
            }
            return places;
        }

        /** Of the places that are no bits in the given ones, the one with the lowest number; -1 if there is none. */
        int lowestBut(int places) {
            int lowest = -1;
            for (int place = 0; place < MOST_FACTS; place++) {
                boolean isLeft = number[place] >= 0 && (places >> place & 1) == 0;
                if (isLeft && (lowest < 0 || number[place] < number[lowest])) {
                    lowest = place;
                }
            }
            return lowest;
        }
    }

    /** Looks for matches of the rules in the facts of the moment. */
    private static final class Matcher {
        final Moment moment = new Moment();
        // One more than can be there: a rule that is read while 10 are there has to be read somewhere.
        final Rule[] rules = new Rule[MOST_RULES + 1];
        final int[] values = new int[VARIABLES];
        private final int[] chosen = new int[MOST_FACTS_OF_MATCH];
        private final int[] newness = new int[MOST_FACTS_OF_MATCH];
        private final int[] bestChosen = new int[MOST_FACTS_OF_MATCH];
        private final int[] bestNewness = new int[MOST_FACTS_OF_MATCH];
        private final long[] marks = new long[ALL_MATCHES / 64];
        private Rule joined;
        private int joinedSlot;
        private int deepest;
        int matchCount;
        int openCount;
        int bestId;

        Matcher() {
            for (int slot = 0; slot < rules.length; slot++) {
                rules[slot] = new Rule();
            }
            joined = rules[0];
            bestId = -1;
        }

        void mark(int match) {
            marks[match >> 6] |= 1L << (match & 63);
        }

        void unmark(int match) {
            marks[match >> 6] &= ~(1L << (match & 63));
        }

        boolean isMarked(int match) {
            return (marks[match >> 6] >> (match & 63) & 1L) != 0;
        }

        /** Counts the matches of a unit's rules, and the open ones; of all rules, if unit is NONE. */
        void survey(int unit) {
            bestId = -1;
            matchCount = 0;
            openCount = 0;
            for (int slot = 0; slot < MOST_RULES; slot++) {
                if (rules[slot].number >= 0 && (unit == NONE || rules[slot].unit == unit)) {
                    joinRule(slot);
                }
            }
        }

        /** How many conditions of a rule, from the first one on, can be met together. */
        int reach(int slot) {
            bestId = -1;
            deepest = 0;
            joinRule(slot);
            return deepest;
        }

        /** Sets bestId to the match to be fired next; returns how many units the focus has then, 0 if there is none. */
        int findNext() {
            bestId = -1;
            for (int height = moment.unitCount; height > 0; height--) {
                int unit = moment.units[height - 1];
                for (int slot = 0; slot < MOST_RULES; slot++) {
                    if (rules[slot].number >= 0 && rules[slot].unit == unit) {
                        joined = rules[slot];
                        joinedSlot = slot;
                        join(0);
                    }
                }
                if (bestId >= 0) {
                    return height;
                }
            }
            return 0;
        }

        private void joinRule(int slot) {
            joined = rules[slot];
            joinedSlot = slot;
            join(0);
        }

        private void join(int from) {
            int at = from;
            while (at < joined.conditionCount && joined.conditions[at].form != Condition.POSITIVE) {
                if (!meets(joined.conditions[at])) {
                    return;
                }
                at++;
                deepest = Math.max(deepest, at);
            }
            if (at < joined.conditionCount) {
                joinFacts(at);
            } else {
                noteMatch();
            }
        }

        private void joinFacts(int at) {
            Condition condition = joined.conditions[at];
            for (int place = 0; place < MOST_FACTS; place++) {
                if (fits(condition.first, place)) {
                    chosen[condition.place] = place;
                    deepest = Math.max(deepest, at + 1);
                    join(at + 1);
                }
            }
        }

        private void noteMatch() {
            matchCount++;
            int id = joinedSlot;
            for (int k = 0; k < MOST_FACTS_OF_MATCH; k++) {
                id = id * MOST_FACTS + (k < joined.positives ? chosen[k] : 0);
            }
            if (isMarked(id)) {
                return;
            }
            openCount++;
            sortNewness();
            if (bestId < 0 || isBetter()) {
                bestId = id;
                System.arraycopy(chosen, 0, bestChosen, 0, MOST_FACTS_OF_MATCH);
                System.arraycopy(newness, 0, bestNewness, 0, MOST_FACTS_OF_MATCH);
            }
        }

        private void sortNewness() {
            for (int k = 0; k < MOST_FACTS_OF_MATCH; k++) {
                int number = k < joined.positives ? moment.number[chosen[k]] : -1;
                int at = k;
                while (at > 0 && newness[at - 1] < number) {
                    newness[at] = newness[at - 1];
                    at--;
                }
                newness[at] = number;
            }
        }

        private boolean isBetter() {
            Rule best = rules[bestId / MATCHES_OF_RULE];
            if (joined.rank != best.rank) {
                return joined.rank > best.rank;
            }
            for (int k = 0; k < MOST_FACTS_OF_MATCH; k++) {
                if (newness[k] != bestNewness[k]) {
                    return newness[k] > bestNewness[k];
                }
            }
            if (joined.special != best.special) {
                return joined.special > best.special;
            }
            if (joined.number != best.number) {
                return joined.number < best.number;
            }
            for (int k = 0; k < joined.positives; k++) {
                if (chosen[k] != bestChosen[k]) {
                    return moment.number[chosen[k]] < moment.number[bestChosen[k]];
                }
            }
            return false;
        }

        /** Whether a match holds; if so, its variables have their values then. */
        boolean holds(int match) {
            Rule rule = rules[match / MATCHES_OF_RULE];
            if (rule.number < 0) {
                return false;
            }
            for (int k = 0; k < MOST_FACTS_OF_MATCH; k++) {
                chosen[k] = placeIn(match, k);
            }
            for (int i = 0; i < rule.conditionCount; i++) {
                Condition condition = rule.conditions[i];
                boolean isPositive = condition.form == Condition.POSITIVE;
                if (!(isPositive ? fits(condition.first, chosen[condition.place]) : meets(condition))) {
                    return false;
                }
            }
            return true;
        }

        private boolean meets(Condition condition) {
            int form = condition.form;
            int total = 0;
            for (int place = 0; place < MOST_FACTS; place++) {
                if (!fits(condition.first, place)) {
                    continue;
                }
                if (form == Condition.NOT || form == Condition.EXISTS) {
                    return form == Condition.EXISTS;
                }
                if (form == Condition.TOTAL) {
                    total += moment.slots[3 * place + condition.first.summed];
                    continue;
                }
                boolean isPaired = false;
                for (int other = 0; other < MOST_FACTS && !isPaired; other++) {
                    isPaired = fits(condition.second, other);
                }
                if (!isPaired) {
                    return false;
                }
            }
            if (form == Condition.TOTAL) {
                values[condition.variable] = nearest(total);
            }
            return form != Condition.EXISTS;
        }

        private boolean fits(Pattern pattern, int place) {
            if (moment.number[place] < 0 || moment.kind[place] != pattern.kind) {
                return false;
            }
            if (moment.now - moment.time[place] >= pattern.youngerThan) {
                return false;
            }
            if (pattern.behind >= 0 && moment.time[place] <= moment.time[chosen[pattern.behind]]) {
                return false;
            }
            for (int slot = 0; slot < 3; slot++) {
                int value = moment.slots[3 * place + slot];
                int variable = pattern.variable[slot];
                int term = pattern.number[slot] + (variable < 0 ? 0 : values[variable]);
                boolean isFit = true;
                switch (pattern.test[slot]) {
                    case Pattern.BIND:
                        values[variable] = value;
                        break;
                    case Pattern.SAME:
                        isFit = value == term;
                        break;
                    case Pattern.LESS:
                        isFit = value < term;
                        break;
                    case Pattern.MORE:
                        isFit = value > term;
                        break;
                    case Pattern.OTHER:
                        isFit = value != term;
                        break;
                    default:
                        break;
                }
                if (!isFit) {
                    return false;
                }
            }
            return true;
        }
    }

    /** The tape, and the grammar of the texts on it. A fault sets isBad; what is read behind it does not matter. */
    private static final class Reader {
        private static final int GOAL = 5;
        private static final int DEEPEST = 40;

        private final int[] tape = new int[TAPE];
        private int length;
        private int at;
        private boolean isBad;
        private int form;
        private int special;
        private int positives;
        // Variables, as bits: with a value from there on, and for the condition that is being read alone.
        private int known;
        private int local;

        boolean hasRoom(int n) {
            return length + n <= TAPE;
        }

        int put(long bytes, int n) {
            for (int i = 0; i < n && length < TAPE; i++) {
                tape[length] = (int) (bytes >> 8 * i & 255);
                length++;
            }
            return length;
        }

        boolean readsRule(Rule rule) {
            begin();
            rule.clear();
            rule.rank = readNumber();
            needs(',');
            rule.unit = readDigit(0, 3);
            needs(',');
            rule.grade = readNumber();
            needs(':');
            isBad |= rule.rank < -99 || rule.rank > 99 || rule.grade < 0 || rule.grade > 100;
            int start = at;
            do {
                readCondition(rule, rule.conditions[rule.conditionCount]);
                rule.textEnds[rule.conditionCount] = at - start;
                rule.conditionCount++;
            } while (!isBad && rule.conditionCount < Rule.MOST_CONDITIONS && sign(at) != '=');
            System.arraycopy(tape, start, rule.text, 0, at - start);
            rule.positives = positives;
            rule.special = special;
            needs('=');
            needs('>');
            do {
                readAction(rule, rule.actions[rule.actionCount]);
                rule.actionCount++;
            } while (!isBad && rule.actionCount < Rule.MOST_ACTIONS && at < length);
            return ends();
        }

        boolean readsGoal(GoalRule goal) {
            begin();
            form = GOAL;
            int headVariables = readHead(goal.head);
            needs(':');
            goal.patternCount = 0;
            do {
                readPattern(goal.patterns[goal.patternCount]);
                goal.patternCount++;
            } while (!isBad && goal.patternCount < GoalRule.MOST_PATTERNS && at < length);
            isBad |= (headVariables & ~known) != 0;
            return ends();
        }

        private void begin() {
            at = 0;
            isBad = false;
            special = 0;
            positives = 0;
            known = 0;
            local = 0;
        }

        /** Uses the tape up; whether all of it was a text without a fault. */
        private boolean ends() {
            boolean isText = !isBad && at == length;
            length = 0;
            return isText;
        }

        private int sign(int index) {
            return index < length ? tape[index] : -1;
        }

        private boolean takes(int wanted) {
            if (at >= length || tape[at] != wanted) {
                return false;
            }
            at++;
            return true;
        }

        private void needs(int wanted) {
            if (!takes(wanted)) {
                isBad = true;
            }
        }

        private static boolean isDigit(int sign) {
            return sign >= '0' && sign <= '9';
        }

        private static boolean isVariable(int sign) {
            return sign >= 'p' && sign <= 'z';
        }

        private int readDigit(int least, int most) {
            int digit = sign(at) - '0';
            if (digit < least || digit > most) {
                isBad = true;
                return least;
            }
            at++;
            return digit;
        }

        private int readNumber() {
            boolean isNegative = takes('-');
            int number = 0;
            int digits = 0;
            while (digits < 3 && isDigit(sign(at))) {
                number = 10 * number + tape[at] - '0';
                at++;
                digits++;
            }
            isBad |= digits == 0;
            return isNegative ? -number : number;
        }

        private int readKind() {
            int kind = sign(at) - 'a';
            if (kind < 0 || kind > 7) {
                isBad = true;
                return 0;
            }
            at++;
            return kind;
        }

        private int readHead(Pattern head) {
            int variables = 0;
            head.clear(readKind());
            for (int slot = 0; slot < 3; slot++) {
                needs(slot == 0 ? '(' : ',');
                int variable = sign(at) - 'p';
                if (isVariable(sign(at))) {
                    at++;
                    head.set(slot, Pattern.SAME, variable, 0);
                    variables |= 1 << variable;
                } else {
                    head.set(slot, Pattern.SAME, -1, readNumber());
                }
            }
            needs(')');
            return variables;
        }

        private void readCondition(Rule rule, Condition condition) {
            local = 0;
            form = readForm();
            condition.form = form;
            isBad |= rule.conditionCount == 0 && form != Condition.POSITIVE;
            if (form == Condition.TOTAL) {
                condition.variable = readFreshVariable();
                needs(':');
            }
            readPattern(condition.first);
            if (form == Condition.ALL) {
                readPattern(condition.second);
            } else if (form == Condition.TOTAL) {
                isBad |= condition.first.summed < 0;
                known |= 1 << condition.variable;
            } else if (form == Condition.POSITIVE) {
                condition.place = positives;
                positives++;
                isBad |= positives > MOST_FACTS_OF_MATCH;
            }
        }

        private int readForm() {
            return takes('!') ? Condition.NOT : takes('?') ? Condition.EXISTS : takes('*') ? Condition.ALL
                    : takes('$') ? Condition.TOTAL : Condition.POSITIVE;
        }

        private int readFreshVariable() {
            int variable = sign(at) - 'p';
            if (!isVariable(sign(at)) || (known >> variable & 1) != 0) {
                isBad = true;
                return 0;
            }
            at++;
            return variable;
        }

        private void readPattern(Pattern pattern) {
            pattern.clear(readKind());
            for (int slot = 0; slot < 3; slot++) {
                needs(slot == 0 ? '(' : ',');
                readSlot(pattern, slot);
            }
            needs(')');
            if (form != GOAL && takes('<')) {
                special++;
                pattern.youngerThan = readNumber();
            }
            if (form != GOAL && takes('/')) {
                special++;
                pattern.behind = readDigit(1, positives) - 1;
            }
        }

        private void readSlot(Pattern pattern, int slot) {
            pattern.set(slot, Pattern.ANY, -1, 0);
            if (takes('_')) {
                return;
            }
            special++;
            if (form == Condition.TOTAL && takes('@')) {
                isBad |= pattern.summed >= 0;
                pattern.summed = slot;
                return;
            }
            int test = Pattern.SAME;
            if (form != GOAL) {
                test = takes('<') ? Pattern.LESS : takes('>') ? Pattern.MORE : takes('#') ? Pattern.OTHER : test;
            }
            if (isVariable(sign(at))) {
                readVariableTerm(pattern, slot, test);
            } else {
                pattern.set(slot, test, -1, readNumber());
            }
        }

        private void readVariableTerm(Pattern pattern, int slot, int test) {
            int variable = sign(at) - 'p';
            int bit = 1 << variable;
            at++;
            boolean isMore = form != GOAL && takes('+');
            boolean isLess = form != GOAL && !isMore && takes('-');
            int number = isMore ? readNumber() : isLess ? -readNumber() : 0;
            if (((known | local) & bit) != 0) {
                pattern.set(slot, test, variable, number);
                return;
            }
            isBad |= test != Pattern.SAME || isMore || isLess;
            pattern.set(slot, Pattern.BIND, variable, 0);
            if (form == Condition.POSITIVE || form == GOAL) {
                known |= bit;
            } else {
                local |= bit;
            }
        }

        private void readAction(Rule rule, Action action) {
            action.form = sign(at);
            at = Math.min(at + 1, length);
            switch (action.form) {
                case '+':
                case '&':
                    action.kind = readKind();
                    for (int slot = 0; slot < 3; slot++) {
                        needs(slot == 0 ? '(' : ',');
                        readOperand(rule, action, slot);
                    }
                    needs(')');
                    break;
                case '-':
                    action.place = readDigit(1, positives) - 1;
                    break;
                case '~':
                    action.place = readDigit(1, positives) - 1;
                    needs('.');
                    action.slot = readDigit(0, 2);
                    needs('=');
                    readOperand(rule, action, 0);
                    break;
                case '^':
                    action.unit = readDigit(0, 3);
                    break;
                default:
                    isBad = true;
                    break;
            }
        }

        private void readOperand(Rule rule, Action action, int index) {
            action.ends[index] = rule.codeLength;
            readExpression(rule, 0);
            action.ends[index + 1] = rule.codeLength;
        }

        private void readExpression(Rule rule, int depth) {
            readFactor(rule, depth);
            for (int i = 0; i < TAPE && !isBad && isOperator(sign(at)) && startsFactor(at + 1); i++) {
                int operator = tape[at];
                at++;
                readFactor(rule, depth);
                emit(rule, operator == '+' ? Rule.ADD : operator == '-' ? Rule.SUBTRACT : Rule.MULTIPLY, 0);
            }
        }

        private static boolean isOperator(int sign) {
            return sign == '+' || sign == '-' || sign == '*';
        }

        private boolean startsFactor(int index) {
            int sign = sign(index);
            return isDigit(sign) || isVariable(sign) || sign == 'T' || sign == '-' && isDigit(sign(index + 1));
        }

        private void readFactor(Rule rule, int depth) {
            int variable = sign(at) - 'p';
            if (isVariable(sign(at))) {
                at++;
                isBad |= (known >> variable & 1) == 0;
                emit(rule, Rule.VALUE, variable);
            } else if (!takes('T')) {
                emit(rule, Rule.NUMBER, readNumber());
            } else if (depth >= DEEPEST) {
                isBad = true;
            } else {
                int table = readDigit(0, 1);
                needs('(');
                readExpression(rule, depth + 1);
                needs(',');
                readExpression(rule, depth + 1);
                needs(')');
                emit(rule, Rule.TABLE, table);
            }
        }

        private void emit(Rule rule, int operation, int operand) {
            if (rule.codeLength >= TAPE) {
                isBad = true;
                return;
            }
            rule.code[rule.codeLength] = operand << Rule.SHIFT | operation;
            rule.codeLength++;
        }
    }

    /** The live moment with the rules: fires, settles, and takes back. */
    private static final class Mill {
        final Matcher matcher = new Matcher();
        final Moment live;
        final Rule[] rules;
        final Table[] tables = new Table[2];
        final Moment aside = new Moment();
        private final Moment[] past = new Moment[MOST_BACK];
        private final long[][] seen = new long[MOST_FIRINGS + 1][MOST_FACTS + 1];
        private final int[] stack = new int[TAPE];
        int pastCount;
        int loopLength;
        private int nextRule;
        // Of the firing that is under way: its match, the numbers of its facts, its values and grade.
        int firing;
        private final int[] taken = new int[MOST_FACTS_OF_MATCH];
        private final int[] values = new int[VARIABLES];
        private int grade;
        // The fact that an action makes: its kind behind its slots, and the grade that ~ takes over, or -1.
        private final int[] made = new int[4];
        private int carriedGrade;

        Mill() {
            live = matcher.moment;
            rules = matcher.rules;
            for (int i = 0; i < tables.length; i++) {
                tables[i] = new Table();
            }
            for (int i = 0; i < past.length; i++) {
                past[i] = new Moment();
            }
        }

        // ---- rules

        /** A slot without a rule; MOST_RULES, behind the slots, if all have one. */
        int freeSlot() {
            for (int slot = 0; slot < MOST_RULES; slot++) {
                if (rules[slot].number < 0) {
                    return slot;
                }
            }
            return MOST_RULES;
        }

        int slotOf(int number) {
            for (int slot = 0; slot < MOST_RULES; slot++) {
                if (number >= 0 && rules[slot].number == number) {
                    return slot;
                }
            }
            return -1;
        }

        int takeRule(int slot) {
            rules[slot].number = nextRule;
            nextRule++;
            pastCount = 0;
            return rules[slot].number;
        }

        void forgetRule(int slot) {
            rules[slot].number = -1;
            pastCount = 0;
            settle();
        }

        int countTests() {
            int unlike = 0;
            int all = MOST_RULES * Rule.MOST_CONDITIONS * 2;
            for (int i = 0; i < all; i++) {
                Pattern pattern = patternAt(i);
                boolean isNew = pattern != null;
                for (int j = 0; j < i && isNew; j++) {
                    Pattern other = patternAt(j);
                    isNew = other == null || !pattern.testsLike(other);
                }
                unlike += isNew ? 1 : 0;
            }
            return unlike;
        }

        private Pattern patternAt(int index) {
            Rule rule = rules[index / (Rule.MOST_CONDITIONS * 2)];
            int at = index / 2 % Rule.MOST_CONDITIONS;
            if (rule.number < 0 || at >= rule.conditionCount) {
                return null;
            }
            Condition condition = rule.conditions[at];
            if (index % 2 == 0) {
                return condition.first;
            }
            return condition.form == Condition.ALL ? condition.second : null;
        }

        int countBeginnings() {
            int unlike = 0;
            for (int slot = 0; slot < MOST_RULES; slot++) {
                for (int many = 1; rules[slot].number >= 0 && many <= rules[slot].conditionCount; many++) {
                    unlike += isNewBeginning(slot, many) ? 1 : 0;
                }
            }
            return unlike;
        }

        private boolean isNewBeginning(int slot, int many) {
            for (int before = 0; before < slot; before++) {
                Rule other = rules[before];
                for (int theirs = 1; other.number >= 0 && theirs <= other.conditionCount; theirs++) {
                    if (rules[slot].beginsLike(many, other, theirs)) {
                        return false;
                    }
                }
            }
            return true;
        }

        /** Of a match, its rule for 0, the facts of its positive conditions for 1 to 3. */
        int partOf(int match, int what) {
            Rule rule = rules[match / MATCHES_OF_RULE];
            if (what == 0) {
                return rule.number;
            }
            return what > rule.positives ? NONE : live.number[placeIn(match, what - 1)];
        }

        // ---- facts and time

        /** Takes a fact that is told, and returns its number; NONE if there is no room for it. */
        int takeFact(int kind, int one, int two, int three, int newGrade, int life) {
            int place = live.find(kind, one, two, three);
            if (place >= 0) {
                live.addPlain(place, newGrade);
                return live.number[place];
            }
            place = live.add(kind, one, two, three);
            if (place < 0) {
                return NONE;
            }
            live.addPlain(place, newGrade);
            live.life[place] = life;
            settle();
            return live.number[place];
        }

        void letGo(int place) {
            live.remove(place);
            settle();
        }

        void tick() {
            live.now++;
            for (int i = 0; i < MOST_FACTS; i++) {
                int place = live.firstExpired();
                if (place >= 0) {
                    letGo(place);
                }
            }
            settle();
        }

        private void settle() {
            for (int i = 0; i <= MOST_FACTS; i++) {
                dropEnded();
                int place = firstUnfounded();
                if (place < 0) {
                    return;
                }
                live.remove(place);
            }
        }

        /** Of matches that do not hold any more, drops that they were fired, and what they support. */
        private void dropEnded() {
            int kept = 0;
            for (int i = 0; i < live.firedCount; i++) {
                int match = live.fired[i];
                if (matcher.holds(match)) {
                    live.fired[kept] = match;
                    kept++;
                } else {
                    matcher.unmark(match);
                }
            }
            live.firedCount = kept;
            kept = 0;
            for (int i = 0; i < live.supportCount; i++) {
                int match = live.supports[i] >> Moment.MATCH_SHIFT;
                // Who is still marked as fired holds, as the loop above has seen.
                if (matcher.isMarked(match) || matcher.holds(match)) {
                    live.supports[kept] = live.supports[i];
                    kept++;
                }
            }
            live.supportCount = kept;
        }

        private int firstUnfounded() {
            int founded = live.plainPlaces();
            boolean isGrowing = true;
            for (int i = 0; i < MOST_FACTS && isGrowing; i++) {
                int before = founded;
                for (int j = 0; j < live.supportCount; j++) {
                    int match = live.supports[j] >> Moment.MATCH_SHIFT;
                    if ((factsOf(match) & ~founded) == 0) {
                        founded |= 1 << (live.supports[j] >> Moment.PLACE_SHIFT & Moment.PLACE_MASK);
                    }
                }
                isGrowing = founded != before;
            }
            return live.lowestBut(founded);
        }

        /** The places of the match's facts, as bits. */
        private int factsOf(int match) {
            int places = 0;
            Rule rule = rules[match / MATCHES_OF_RULE];
            for (int k = 0; k < rule.positives; k++) {
                places |= 1 << placeIn(match, k);
            }
            return places;
        }

        // ---- firing

        int runAtMost(int most, boolean isKept) {
            int times = 0;
            int length = 0;
            noteState(0);
            while (times < most && length == 0 && fireNext(isKept)) {
                times++;
                noteState(times);
                length = sinceSame(times);
            }
            if (isKept) {
                loopLength = length;
            }
            return times;
        }

        private void noteState(int row) {
            long[] state = seen[row];
            Arrays.fill(state, 0);
            for (int i = 0; i < live.unitCount; i++) {
                state[0] = 5 * state[0] + live.units[i] + 1;
            }
            int last = 0;
            for (int place = 0; place < MOST_FACTS; place++) {
                if (live.number[place] >= 0) {
                    int at = 3 * place;
                    long key = keyOf(live.kind[place], live.slots[at], live.slots[at + 1], live.slots[at + 2]);
                    last++;
                    int to = last;
                    while (to > 1 && state[to - 1] > key) {
                        state[to] = state[to - 1];
                        to--;
                    }
                    state[to] = key;
                }
            }
        }

        /** How many firings ago the state of this row was there before; 0 if it was not. */
        private int sinceSame(int row) {
            for (int before = row - 1; before >= 0; before--) {
                boolean isSame = true;
                for (int i = 0; i <= MOST_FACTS; i++) {
                    isSame &= seen[before][i] == seen[row][i];
                }
                if (isSame) {
                    return row - before;
                }
            }
            return 0;
        }

        boolean fireNext(boolean isKept) {
            int height = matcher.findNext();
            if (height == 0) {
                live.unitCount = 1;
                return false;
            }
            if (isKept) {
                keepPast();
            }
            live.unitCount = height;
            Rule rule = takeMatch(matcher.bestId);
            for (int i = 0; i < rule.actionCount; i++) {
                Action action = rule.actions[i];
                if (letsGo(action)) {
                    settle();
                }
                if (brings(rule, action)) {
                    settle();
                }
            }
            return true;
        }

        private void keepPast() {
            Moment oldest = past[0];
            if (pastCount == MOST_BACK) {
                for (int i = 1; i < MOST_BACK; i++) {
                    past[i - 1] = past[i];
                }
                past[MOST_BACK - 1] = oldest;
                pastCount--;
            }
            past[pastCount].copyFrom(live);
            pastCount++;
        }

        /** Takes many kept moments back, of those that are there; returns how many are left. */
        int goBack(int many) {
            pastCount = Math.max(0, pastCount - many);
            restore(past[pastCount]);
            return pastCount;
        }

        void restore(Moment moment) {
            for (int i = 0; i < live.firedCount; i++) {
                matcher.unmark(live.fired[i]);
            }
            live.copyFrom(moment);
            for (int i = 0; i < live.firedCount; i++) {
                matcher.mark(live.fired[i]);
            }
        }

        private Rule takeMatch(int match) {
            firing = match;
            matcher.mark(match);
            live.addFired(match);
            // The search that found the match has gone on since: holding gives its variables their values again.
            matcher.holds(match);
            System.arraycopy(matcher.values, 0, values, 0, VARIABLES);
            Rule rule = rules[match / MATCHES_OF_RULE];
            int least = 100;
            for (int k = 0; k < rule.positives; k++) {
                int place = placeIn(match, k);
                taken[k] = live.number[place];
                least = Math.min(least, live.gradeOf(place));
            }
            grade = least * rule.grade / 100;
            return rule;
        }

        /** Does the first half of - and ~; returns whether a fact went. */
        private boolean letsGo(Action action) {
            carriedGrade = -1;
            if (action.form != '-' && action.form != '~') {
                return false;
            }
            int place = live.placeOf(taken[action.place]);
            if (place < 0) {
                return false;
            }
            System.arraycopy(live.slots, 3 * place, made, 0, 3);
            made[3] = live.kind[place];
            carriedGrade = live.gradeOf(place);
            live.remove(place);
            return true;
        }

        /** Does the rest of an action; returns whether a fact came. */
        private boolean brings(Rule rule, Action action) {
            switch (action.form) {
                case '^':
                    live.addUnit(action.unit);
                    return false;
                case '~':
                    made[action.slot] = reckon(rule, action.ends[0], action.ends[1]);
                    return carriedGrade >= 0 && bringsPlain(carriedGrade);
                case '+':
                case '&':
                    for (int slot = 0; slot < 3; slot++) {
                        made[slot] = reckon(rule, action.ends[slot], action.ends[slot + 1]);
                    }
                    made[3] = action.kind;
                    return action.form == '+' ? bringsPlain(grade) : bringsBelief(rule);
                default:
                    return false;
            }
        }

        private boolean bringsPlain(int newGrade) {
            int place = live.find(made[3], made[0], made[1], made[2]);
            boolean isNew = place < 0;
            if (isNew) {
                place = live.add(made[3], made[0], made[1], made[2]);
            }
            if (place >= 0) {
                live.addPlain(place, newGrade);
            }
            return isNew && place >= 0;
        }

        private boolean bringsBelief(Rule rule) {
            for (int k = 0; k < rule.positives; k++) {
                // A place may have got another fact during the firing.
                if (live.number[placeIn(firing, k)] != taken[k]) {
                    return false;
                }
            }
            if (!matcher.holds(firing)) {
                return false;
            }
            int place = live.find(made[3], made[0], made[1], made[2]);
            boolean isNew = place < 0;
            if (isNew) {
                place = live.add(made[3], made[0], made[1], made[2]);
            }
            if (place >= 0) {
                live.addSupport(place, firing, grade);
            }
            return isNew && place >= 0;
        }

        private int reckon(Rule rule, int from, int to) {
            int height = 0;
            stack[0] = 0;
            for (int i = from; i < to && height < TAPE; i++) {
                int operation = rule.code[i] & Rule.MASK;
                int operand = rule.code[i] >> Rule.SHIFT;
                if (operation == Rule.NUMBER) {
                    stack[height] = operand;
                    height++;
                } else if (operation == Rule.VALUE) {
                    stack[height] = values[operand];
                    height++;
                } else if (height > 1) {
                    height--;
                    stack[height - 1] = apply(operation, operand, stack[height - 1], stack[height]);
                }
            }
            return stack[0];
        }

        private int apply(int operation, int operand, int left, int right) {
            switch (operation) {
                case Rule.ADD:
                    return nearest(left + right);
                case Rule.SUBTRACT:
                    return nearest(left - right);
                case Rule.MULTIPLY:
                    return nearest(left * right);
                default:
                    int told = tables[operand].decide(left, right);
                    return told == NONE ? 0 : told;
            }
        }
    }

    /** The goal rules, and what follows by them. */
    private static final class Goals {
        private static final int MOST_THINGS = 150;
        private static final int HASH = 512;

        // One more than can be there, to read into while 6 are there.
        final GoalRule[] rules = new GoalRule[MOST_GOALS + 1];
        int count;
        private final int[] kinds = new int[MOST_THINGS];
        private final int[] slots = new int[3 * MOST_THINGS];
        private final long[] keys = new long[HASH];
        private final int[] values = new int[VARIABLES];
        private int things;
        private boolean isFull;
        // The thing that is being followed up: joins with it alone are still to be made.
        private int latest;
        private GoalRule rule;

        Goals() {
            for (int i = 0; i < rules.length; i++) {
                rules[i] = new GoalRule();
            }
            rule = rules[0];
        }

        /** Finds all that follows from the facts of a moment; false if that is too much. */
        boolean closes(Moment moment) {
            things = 0;
            isFull = false;
            Arrays.fill(keys, 0);
            for (int place = 0; place < MOST_FACTS; place++) {
                if (moment.number[place] >= 0) {
                    int at = 3 * place;
                    insert(moment.kind[place], moment.slots[at], moment.slots[at + 1], moment.slots[at + 2]);
                }
            }
            for (latest = 0; latest < things && !isFull; latest++) {
                for (int i = 0; i < count; i++) {
                    rule = rules[i];
                    for (int through = 0; through < rule.patternCount; through++) {
                        join(0, through);
                    }
                }
            }
            return !isFull;
        }

        boolean has(int kind, int one, int two, int three) {
            return keys[indexOf(keyOf(kind, one, two, three))] != 0;
        }

        private int indexOf(long key) {
            int index = (int) ((key ^ key >> 11 ^ key >> 22) * 31 & HASH - 1);
            for (int i = 0; i < HASH && keys[index] != 0 && keys[index] != key; i++) {
                index = index + 1 & HASH - 1;
            }
            return index;
        }

        private void insert(int kind, int one, int two, int three) {
            long key = keyOf(kind, one, two, three);
            int index = indexOf(key);
            if (keys[index] != 0) {
                return;
            }
            if (things == MOST_THINGS) {
                isFull = true;
                return;
            }
            keys[index] = key;
            kinds[things] = kind;
            slots[3 * things] = one;
            slots[3 * things + 1] = two;
            slots[3 * things + 2] = three;
            things++;
        }

        /** Joins the patterns from this one on: through is met by the latest thing, those ahead of it by older ones. */
        private void join(int at, int through) {
            if (at >= rule.patternCount) {
                insertHead();
            } else {
                joinThings(at, through);
            }
        }

        private void joinThings(int at, int through) {
            int first = at == through ? latest : 0;
            int last = at < through ? latest - 1 : latest;
            for (int thing = first; thing <= last && !isFull; thing++) {
                if (fits(rule.patterns[at], thing)) {
                    join(at + 1, through);
                }
            }
        }

        private boolean fits(Pattern pattern, int thing) {
            if (kinds[thing] != pattern.kind) {
                return false;
            }
            for (int slot = 0; slot < 3; slot++) {
                int value = slots[3 * thing + slot];
                int variable = pattern.variable[slot];
                if (pattern.test[slot] == Pattern.BIND) {
                    values[variable] = value;
                } else if (pattern.test[slot] == Pattern.SAME) {
                    int term = variable < 0 ? pattern.number[slot] : values[variable];
                    if (value != term) {
                        return false;
                    }
                }
            }
            return true;
        }

        private void insertHead() {
            insert(rule.head.kind, headEnd(0), headEnd(1), headEnd(2));
        }

        private int headEnd(int slot) {
            int variable = rule.head.variable[slot];
            return variable < 0 ? rule.head.number[slot] : values[variable];
        }
    }
}
