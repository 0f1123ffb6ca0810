import java.util.ArrayList;
import java.util.NoSuchElementException;

/** A machine of goals that wait for what they need. */
public final class GuardNet {
    private static final int LONGEST_TEXT = 48;
    private static final int MOST_CLAUSES = 12;
    private static final int MOST_PARTS = 3;
    private static final int DEEPEST_TERM = 5;
    private static final int CAPITALS = 26;
    private static final int LEVELS = 4;
    private static final int LEVEL_OF_A_QUESTION = 1;
    private static final int LONGEST_RUN = 100;
    private static final int MOST_STEPS = 400;
    private static final int MOST_GOALS = 60;
    private static final int MOST_PAIRS = 60;
    private static final int LONGEST_SPELLING = 80;
    // A CALL with ARGUMENTS writes two characters before the next depth begins.
    private static final int DEEPEST_SPELLING = LONGEST_SPELLING / 2 + 1;
    // Far above the VARIABLES that one QUESTION can bring to be.
    private static final int LONGEST_CHAIN = 1000000;

    // What a TERM is.
    private static final int VARIABLE = 0;
    private static final int NUMBER = 1;
    private static final int LETTER = 2;

    // What an Item is, when it's neither a comparison nor a reckoning sign.
    private static final int CALL = 'c';
    private static final int NO_LEVEL = -1;

    // How a try, a GUARD, a MATCHING or a STEP comes out.
    private static final int SUCCEEDS = 0;
    private static final int FAILS = 1;
    private static final int WAITS = 2;
    private static final int TOO_MUCH = 3;

    // How a QUESTION is, as count(8) tells it.
    private static final int NONE = 0;
    private static final int CAN_RUN = 1;
    private static final int HAS_FAILED = 2;
    private static final int WAS_TOO_MUCH = 3;

    private final Reader reader;
    private int place;
    private final ArrayList<Clause> clauses;
    private final Network network;
    private final StringBuilder spelling;

    public GuardNet() {
        reader = new Reader();
        place = -1;
        clauses = new ArrayList<>();
        network = new Network();
        spelling = new StringBuilder();
    }

    public int type(long eight) throws IllegalArgumentException, IllegalStateException {
        int more = 0;
        for (int shift = 56; shift >= 0; shift -= 8) {
            int character = byteAt(eight, shift);
            if (character != 0 && (character < 33 || character > 126)) {
                throw new IllegalArgumentException();
            }
            more += character != 0 ? 1 : 0;
        }
        if (reader.length() + more > LONGEST_TEXT) {
            throw new IllegalStateException();
        }
        for (int shift = 56; shift >= 0; shift -= 8) {
            int character = byteAt(eight, shift);
            if (character != 0) {
                reader.append(character);
            }
        }
        return reader.length();
    }

    private static int byteAt(long eight, int shift) {
        return (int) (eight >>> shift) & 255;
    }

    public int add() throws IllegalArgumentException, IllegalStateException {
        if (clauses.size() >= MOST_CLAUSES) {
            reader.empty();
            throw new IllegalStateException();
        }
        Clause clause = reader.readClause();
        reader.empty();
        if (clause == null) {
            place = reader.place();
            throw new IllegalArgumentException();
        }
        clauses.add(clause);
        return clauses.size();
    }

    public void drop(int i) throws IllegalArgumentException {
        if (i < 0 || i >= clauses.size()) {
            throw new IllegalArgumentException();
        }
        clauses.remove(i);
    }

    public int ask() throws IllegalArgumentException {
        ArrayList<Item> goals = reader.readQuestion();
        reader.empty();
        if (goals == null) {
            place = reader.place();
            throw new IllegalArgumentException();
        }
        network.begin(goals);
        return goals.size();
    }

    public int run(int n)
            throws IllegalArgumentException, IllegalStateException, UnsupportedOperationException {
        if (n < 1 || n > LONGEST_RUN) {
            throw new IllegalArgumentException();
        }
        if (network.state() != CAN_RUN) {
            throw new IllegalStateException();
        }
        for (int k = 0; k < n && network.hasMoreToDo(); k++) {
            network.step(clauses);
        }
        if (network.state() == HAS_FAILED) {
            throw new UnsupportedOperationException();
        }
        if (network.state() == WAS_TOO_MUCH) {
            throw new IllegalStateException();
        }
        if (network.hasMoreToDo()) {
            return 0;
        }
        return network.goalsAsleep() == 0 ? 1 : 2;
    }

    public int letter(int v, int i) throws IllegalArgumentException, NoSuchElementException {
        if (v < 0 || v >= CAPITALS) {
            throw new IllegalArgumentException();
        }
        Node node = network.named(v);
        if (node == null) {
            throw new NoSuchElementException();
        }
        spelling.setLength(0);
        spell(node, 1);
        int size = Math.min(spelling.length(), LONGEST_SPELLING);
        if (i == -1) {
            return size;
        }
        if (i < 0 || i >= size) {
            throw new NoSuchElementException();
        }
        return spelling.charAt(i);
    }

    // A TERM may stand within itself, so only the text's end is sure to stop this.
    private void spell(Node node, int depth) {
        if (spelling.length() >= LONGEST_SPELLING || depth > DEEPEST_SPELLING) {
            return;
        }
        Node term = node.atLast();
        if (term.kind == VARIABLE) {
            spelling.append('_');
        } else if (term.kind == NUMBER) {
            spelling.append(term.value);
        } else {
            spelling.append((char) term.value);
            for (int k = 0; k < term.size; k++) {
                spelling.append(k == 0 ? '(' : ',');
                spell(term.parts[k], depth + 1);
            }
            if (term.size > 0) {
                spelling.append(')');
            }
        }
    }

    public int sleeping(int v) throws IllegalArgumentException {
        if (v < 0 || v >= CAPITALS) {
            throw new IllegalArgumentException();
        }
        Node node = network.named(v);
        return node == null ? -1 : network.sleepersOn(node.atLast());
    }

    public int count(int what) {
        switch (what) {
            case 0: return place;
            case 1: return reader.length();
            case 2: return clauses.size();
            case 3: return network.steps();
            case 4: return network.goalsInRows();
            case 5: return network.goalsAsleep();
            case 6: return network.variables();
            case 7: return network.sleeps();
            case 8: return network.state();
            default: return what >= 10 && what < 10 + LEVELS ? network.goalsAt(what - 10) : -1;
        }
    }

    /** A TERM as it was read; the value of a VARIABLE is 0 for A up to 25 for Z. */
    private static final class Term {
        final int kind;
        final int value;
        final Term[] parts;
        int size;
        // The VARIABLES within, a bit for each.
        int capitals;

        Term(int kind, int value) {
            this.kind = kind;
            this.value = value;
            parts = new Term[kind == LETTER ? MOST_PARTS : 0];
            size = 0;
            capitals = kind == VARIABLE ? 1 << value : 0;
        }

        void hang(Term part) {
            if (size < parts.length) {
                parts[size] = part;
                size++;
                capitals |= part.capitals;
            }
        }
    }

    /** A GUARD or a GOAL as it was read: its sign, and the TERMS in the order of the text. */
    private static final class Item {
        final int sign;
        final int level;
        final Term first;
        final Term second;
        final Term third;

        Item(int sign, int level, Term first, Term second, Term third) {
            this.sign = sign;
            this.level = level;
            this.first = first;
            this.second = second;
            this.third = third;
        }
    }

    /** A CLAUSE as it was read. */
    private static final class Clause {
        final Term head;
        final ArrayList<Item> guards = new ArrayList<>();
        final ArrayList<Item> goals = new ArrayList<>();

        Clause(Term head) {
            this.head = head;
        }
    }

    /**
     * Keeps the text and reads it. What can't be read answers null or false, and the
     * character that is wrong is never passed, so THE PLACE is where the reading stopped.
     */
    private static final class Reader {
        private final byte[] text = new byte[LONGEST_TEXT];
        private int length;
        private int at;

        int length() {
            return length;
        }

        void append(int character) {
            if (length < LONGEST_TEXT) {
                text[length] = (byte) character;
                length++;
            }
        }

        void empty() {
            length = 0;
        }

        /** Where the latest reading stopped, also when the text is empty by now. */
        int place() {
            return at;
        }

        Clause readClause() {
            at = 0;
            Term head = isSmall(next()) ? readTerm(1) : null;
            if (head == null) {
                return null;
            }
            Clause clause = new Clause(head);
            if (pass(':') && !readItems(clause.guards, true)) {
                return null;
            }
            if (pass('|') && !readItems(clause.goals, false)) {
                return null;
            }
            return at == length ? clause : null;
        }

        ArrayList<Item> readQuestion() {
            at = 0;
            ArrayList<Item> goals = new ArrayList<>();
            return readItems(goals, false) && at == length ? goals : null;
        }

        private boolean readItems(ArrayList<Item> items, boolean asGuards) {
            for (int k = 0; k < LONGEST_TEXT; k++) {
                Item item = asGuards ? readGuard() : readGoal();
                if (item == null) {
                    return false;
                }
                items.add(item);
                if (!pass(',')) {
                    return true;
                }
            }
            return false;
        }

        private Item readGuard() {
            Term first = readTerm(1);
            if (first == null) {
                return null;
            }
            int sign = next();
            if (sign != '<' && sign != '=' && sign != '~') {
                return null;
            }
            at++;
            Term second = readTerm(1);
            return second == null ? null : new Item(sign, NO_LEVEL, first, second, null);
        }

        private Item readGoal() {
            Term first = readTerm(1);
            if (first == null) {
                return null;
            }
            if (pass('=')) {
                Term second = readTerm(1);
                return second == null ? null : new Item('=', NO_LEVEL, first, second, null);
            }
            if (first.kind == VARIABLE) {
                return pass('#') ? readReckoning(first) : null;
            }
            return first.kind == LETTER ? readLevel(first) : null;
        }

        private Item readReckoning(Term target) {
            Term second = readTerm(1);
            if (second == null) {
                return null;
            }
            int sign = next();
            if (sign != '+' && sign != '-' && sign != '*') {
                return null;
            }
            at++;
            Term third = readTerm(1);
            return third == null ? null : new Item(sign, NO_LEVEL, target, second, third);
        }

        private Item readLevel(Term call) {
            if (!pass('^')) {
                return new Item(CALL, NO_LEVEL, call, null, null);
            }
            int level = next() - '0';
            if (level < 0 || level >= LEVELS) {
                return null;
            }
            at++;
            return new Item(CALL, level, call, null, null);
        }

        private Term readTerm(int depth) {
            int character = next();
            if (character >= 'A' && character <= 'Z') {
                at++;
                return new Term(VARIABLE, character - 'A');
            }
            if (isDigit(character)) {
                return readNumber();
            }
            if (!isSmall(character)) {
                return null;
            }
            at++;
            Term term = new Term(LETTER, character);
            if (depth < DEEPEST_TERM && pass('(') && !readParts(term, depth + 1)) {
                return null;
            }
            return term;
        }

        private Term readNumber() {
            int value = next() - '0';
            at++;
            if (isDigit(next())) {
                value = value * 10 + next() - '0';
                at++;
            }
            return new Term(NUMBER, value);
        }

        private boolean readParts(Term term, int depth) {
            for (int k = 1; k <= MOST_PARTS; k++) {
                Term part = readTerm(depth);
                if (part == null) {
                    return false;
                }
                term.hang(part);
                if (pass(')')) {
                    return true;
                }
                if (k == MOST_PARTS || !pass(',')) {
                    return false;
                }
            }
            return false;
        }

        // 0 stands for the end: no text has such a character.
        private int next() {
            return at < length ? text[at] : 0;
        }

        private boolean pass(int character) {
            if (at >= length || text[at] != character) {
                return false;
            }
            at++;
            return true;
        }

        private static boolean isSmall(int character) {
            return character >= 'a' && character <= 'z';
        }

        private static boolean isDigit(int character) {
            return character >= '0' && character <= '9';
        }
    }

    /** A TERM of the network; the value of a VARIABLE tells when it came to be. */
    private static final class Node {
        final Node[] parts = new Node[MOST_PARTS];
        int kind;
        int value;
        int size;
        Node written;

        void hang(Node part) {
            if (size < MOST_PARTS) {
                parts[size] = part;
                size++;
            }
        }

        // A later VARIABLE is written to be an earlier one, so the chain has an end.
        Node atLast() {
            Node node = this;
            for (int k = 0; k < LONGEST_CHAIN && node.written != null; k++) {
                node = node.written;
            }
            return node;
        }
    }

    /** The nodes of one QUESTION, kept for the next one, as all calls share one room. */
    private static final class Store {
        private final ArrayList<Node> nodes = new ArrayList<>();
        private int used;
        private int variables;

        void clear() {
            used = 0;
            variables = 0;
        }

        int used() {
            return used;
        }

        int variables() {
            return variables;
        }

        // For what only a GUARD needed: nothing that stays may hold a node from mark on.
        void release(int mark) {
            used = mark;
        }

        Node make(int kind, int value) {
            if (used >= nodes.size()) {
                nodes.add(new Node());
            }
            Node node = nodes.get(used);
            used++;
            node.kind = kind;
            node.value = value;
            node.size = 0;
            node.written = null;
            return node;
        }

        Node makeVariable() {
            variables++;
            return make(VARIABLE, variables);
        }
    }

    /** A GOAL in a ROW or asleep. */
    private static final class Goal {
        int sign;
        int level;
        Node first;
        Node second;
        Node third;
        // Each CLAUSE can find one VARIABLE to wait for.
        private final Node[] awaited = new Node[MOST_CLAUSES];
        private int waits;

        void become(int newSign, int newLevel) {
            sign = newSign;
            level = newLevel;
            waits = 0;
        }

        void awaitNothing() {
            waits = 0;
        }

        void await(Node variable) {
            if (!awaits(variable) && waits < MOST_CLAUSES) {
                awaited[waits] = variable;
                waits++;
            }
        }

        boolean awaits(Node variable) {
            for (int k = 0; k < waits; k++) {
                if (awaited[k] == variable) {
                    return true;
                }
            }
            return false;
        }

        boolean mustWait() {
            return waits > 0;
        }
    }

    /** GOALS one behind the other; one more than MOST_GOALS, for the one in a STEP. */
    private static final class Row {
        private final Goal[] goals = new Goal[MOST_GOALS + 1];
        private int size;

        int size() {
            return size;
        }

        Goal look(int i) {
            return i >= 0 && i < size ? goals[i] : null;
        }

        void append(Goal goal) {
            if (size < goals.length) {
                goals[size] = goal;
                size++;
            }
        }

        Goal take(int i) {
            Goal goal = look(i);
            if (goal == null) {
                return null;
            }
            for (int k = i + 1; k < size; k++) {
                goals[k - 1] = goals[k];
            }
            size--;
            return goal;
        }
    }

    /** The PAIRS of two TERMS, looked at one after the other. */
    private static final class Pairs {
        // Each PAIR looked at goes and brings three at most.
        private final Node[] lefts = new Node[2 * MOST_PAIRS + 1];
        private final Node[] rights = new Node[2 * MOST_PAIRS + 1];
        private int open;
        private int looked;
        private Node left;
        private Node right;

        void begin(Node newLeft, Node newRight) {
            left = newLeft;
            right = newRight;
            lefts[0] = newLeft;
            rights[0] = newRight;
            open = 1;
            looked = 0;
        }

        Node left() {
            return left;
        }

        Node right() {
            return right;
        }

        Node firstVariable() {
            return left.kind == VARIABLE ? left : right;
        }

        /** Goes on up to a PAIR with a VARIABLE that isn't on both sides: WAITS. */
        int next() {
            while (open > 0 && looked < MOST_PAIRS) {
                looked++;
                open--;
                left = lefts[open].atLast();
                right = rights[open].atLast();
                if (left.kind == VARIABLE || right.kind == VARIABLE) {
                    if (left != right) {
                        return WAITS;
                    }
                } else if (beginAlike()) {
                    pushParts();
                } else {
                    return FAILS;
                }
            }
            return open > 0 ? TOO_MUCH : SUCCEEDS;
        }

        private boolean beginAlike() {
            return left.kind == right.kind && left.value == right.value
                    && left.size == right.size;
        }

        // The last first, so that the first is on top.
        private void pushParts() {
            for (int k = left.size - 1; k >= 0 && open < lefts.length; k--) {
                lefts[open] = left.parts[k];
                rights[open] = right.parts[k];
                open++;
            }
        }
    }

    /** One use of a CLAUSE, or a QUESTION: what its VARIABLES are. */
    private static final class Use {
        final Store store = new Store();
        final Pairs pairs = new Pairs();
        private final Node[] nodes = new Node[CAPITALS];
        // The VARIABLES met, a bit for each; what stands in nodes for others is old.
        private int met;
        private Node found;

        void begin() {
            met = 0;
            found = null;
        }

        /** What the VARIABLE is, or null if it wasn't met. */
        Node named(int capital) {
            return isMet(capital) ? nodes[capital] : null;
        }

        /** The VARIABLE that the latest try must wait for. */
        Node found() {
            return found;
        }

        int attempt(Clause clause, Node call) {
            begin();
            int outcome = match(clause.head, call);
            for (int k = 0; k < clause.guards.size() && outcome == SUCCEEDS; k++) {
                outcome = check(clause.guards.get(k));
            }
            return outcome;
        }

        private int match(Term pattern, Node given) {
            Node node = given.atLast();
            if (pattern.kind == VARIABLE && isMet(pattern.value)) {
                return compare(nodes[pattern.value], node);
            }
            if (pattern.kind == VARIABLE) {
                meet(pattern.value, node);
                return SUCCEEDS;
            }
            if (node.kind == VARIABLE) {
                return waitFor(node);
            }
            if (pattern.kind != node.kind || pattern.value != node.value
                    || pattern.size != node.size) {
                return FAILS;
            }
            int outcome = SUCCEEDS;
            for (int k = 0; k < pattern.size && outcome == SUCCEEDS; k++) {
                outcome = match(pattern.parts[k], node.parts[k]);
            }
            return outcome;
        }

        private int check(Item guard) {
            if (((guard.first.capitals | guard.second.capitals) & ~met) != 0) {
                return FAILS;
            }
            int mark = store.used();
            Node first = build(guard.first);
            Node second = build(guard.second);
            int outcome = guard.sign == '<' ? below(first, second) : compare(first, second);
            store.release(mark);
            return guard.sign == '~' ? reversed(outcome) : outcome;
        }

        private int below(Node first, Node second) {
            Node left = first.atLast();
            Node right = second.atLast();
            if (left.kind == VARIABLE || right.kind == VARIABLE) {
                return waitFor(left.kind == VARIABLE ? left : right);
            }
            boolean numbers = left.kind == NUMBER && right.kind == NUMBER;
            return numbers && left.value < right.value ? SUCCEEDS : FAILS;
        }

        private int compare(Node first, Node second) {
            pairs.begin(first, second);
            int outcome = pairs.next();
            return outcome == WAITS ? waitFor(pairs.firstVariable()) : outcome;
        }

        private static int reversed(int outcome) {
            if (outcome == SUCCEEDS) {
                return FAILS;
            }
            return outcome == FAILS ? SUCCEEDS : outcome;
        }

        private int waitFor(Node variable) {
            found = variable;
            return WAITS;
        }

        /** The TERM as a node; VARIABLES that weren't met come to be, in the text's order. */
        private Node build(Term term) {
            if (term.kind == VARIABLE) {
                if (!isMet(term.value)) {
                    meet(term.value, store.makeVariable());
                }
                return nodes[term.value];
            }
            Node node = store.make(term.kind, term.value);
            for (int k = 0; k < term.size; k++) {
                node.hang(build(term.parts[k]));
            }
            return node;
        }

        private boolean isMet(int capital) {
            return (met >>> capital & 1) != 0;
        }

        private void meet(int capital, Node node) {
            nodes[capital] = node;
            met |= 1 << capital;
        }
    }

    /** The GOALS of a QUESTION. */
    private static final class Network {
        private final Use use = new Use();
        private final Row[] rows = new Row[LEVELS];
        private final Row asleep = new Row();
        // GOALS that are done, to be used again.
        private final Row spare = new Row();
        private final Node[] named = new Node[CAPITALS];
        private int state;
        private int steps;
        private int sleeps;

        Network() {
            for (int level = 0; level < LEVELS; level++) {
                rows[level] = new Row();
            }
            state = NONE;
            steps = 0;
            sleeps = 0;
        }

        int state() {
            return state;
        }

        int steps() {
            return steps;
        }

        int sleeps() {
            return sleeps;
        }

        int variables() {
            return use.store.variables();
        }

        int goalsAsleep() {
            return asleep.size();
        }

        int goalsAt(int level) {
            return level >= 0 && level < LEVELS ? rows[level].size() : 0;
        }

        int goalsInRows() {
            int goals = 0;
            for (int level = 0; level < LEVELS; level++) {
                goals += rows[level].size();
            }
            return goals;
        }

        boolean hasMoreToDo() {
            return state == CAN_RUN && goalsInRows() > 0;
        }

        /** The VARIABLE of the QUESTION, or null if it has none such. */
        Node named(int capital) {
            return capital >= 0 && capital < CAPITALS ? named[capital] : null;
        }

        int sleepersOn(Node variable) {
            int sleepers = 0;
            for (int k = 0; k < asleep.size(); k++) {
                Goal goal = asleep.look(k);
                if (goal != null && goal.awaits(variable)) {
                    sleepers++;
                }
            }
            return sleepers;
        }

        void begin(ArrayList<Item> goals) {
            for (int level = 0; level < LEVELS; level++) {
                dismiss(rows[level]);
            }
            dismiss(asleep);
            use.store.clear();
            use.begin();
            state = CAN_RUN;
            steps = 0;
            sleeps = 0;
            for (int k = 0; k < goals.size(); k++) {
                put(goals.get(k), LEVEL_OF_A_QUESTION);
            }
            for (int capital = 0; capital < CAPITALS; capital++) {
                named[capital] = use.named(capital);
            }
        }

        private void dismiss(Row row) {
            for (int k = row.size() - 1; k >= 0; k--) {
                spare.append(row.take(k));
            }
        }

        private int put(Item item, int levelAround) {
            Node first = use.build(item.first);
            Node second = item.second == null ? null : use.build(item.second);
            Node third = item.third == null ? null : use.build(item.third);
            if (goalsInRows() + asleep.size() >= MOST_GOALS) {
                return TOO_MUCH;
            }
            Goal goal = spare.size() > 0 ? spare.take(spare.size() - 1) : new Goal();
            goal.become(item.sign, item.level == NO_LEVEL ? levelAround : item.level);
            goal.first = first;
            goal.second = second;
            goal.third = third;
            rows[goal.level].append(goal);
            return SUCCEEDS;
        }

        void step(ArrayList<Clause> clauses) {
            if (steps >= MOST_STEPS) {
                state = WAS_TOO_MUCH;
                return;
            }
            Goal goal = takeFirst();
            if (goal == null) {
                return;
            }
            steps++;
            if (goal.sign == CALL) {
                settle(goal, reduce(goal, clauses));
            } else if (goal.sign == '=') {
                settle(goal, makeSame(goal.first, goal.second));
            } else {
                settle(goal, reckon(goal));
            }
        }

        private void settle(Goal goal, int outcome) {
            if (outcome == WAITS) {
                asleep.append(goal);
                sleeps++;
                return;
            }
            spare.append(goal);
            if (outcome == FAILS) {
                state = HAS_FAILED;
            } else if (outcome == TOO_MUCH) {
                state = WAS_TOO_MUCH;
            }
        }

        private Goal takeFirst() {
            for (int level = LEVELS - 1; level >= 0; level--) {
                if (rows[level].size() > 0) {
                    return rows[level].take(0);
                }
            }
            return null;
        }

        private int reduce(Goal goal, ArrayList<Clause> clauses) {
            for (int k = 0; k < clauses.size(); k++) {
                int outcome = use.attempt(clauses.get(k), goal.first);
                if (outcome == SUCCEEDS) {
                    return putAll(clauses.get(k).goals, goal.level);
                }
                if (outcome == TOO_MUCH) {
                    return TOO_MUCH;
                }
                if (outcome == WAITS) {
                    goal.await(use.found());
                }
            }
            return goal.mustWait() ? WAITS : FAILS;
        }

        private int putAll(ArrayList<Item> goals, int level) {
            int outcome = SUCCEEDS;
            for (int k = 0; k < goals.size() && outcome == SUCCEEDS; k++) {
                outcome = put(goals.get(k), level);
            }
            return outcome;
        }

        private int reckon(Goal goal) {
            Node left = goal.second.atLast();
            Node right = goal.third.atLast();
            if (left.kind == VARIABLE || right.kind == VARIABLE) {
                goal.await(left.kind == VARIABLE ? left : right);
                return WAITS;
            }
            if (left.kind != NUMBER || right.kind != NUMBER) {
                return FAILS;
            }
            int outcome = reckoned(goal.sign, left.value, right.value);
            return makeSame(goal.first, use.store.make(NUMBER, outcome));
        }

        private static int reckoned(int sign, int left, int right) {
            if (sign == '+') {
                return left + right;
            }
            return sign == '-' ? left - right : left * right;
        }

        private int makeSame(Node first, Node second) {
            Pairs pairs = use.pairs;
            pairs.begin(first, second);
            int outcome = pairs.next();
            for (int k = 0; k < MOST_PAIRS && outcome == WAITS; k++) {
                join(pairs.left(), pairs.right());
                outcome = pairs.next();
            }
            return outcome;
        }

        private void join(Node left, Node right) {
            boolean both = left.kind == VARIABLE && right.kind == VARIABLE;
            boolean leftIsWritten = both ? left.value > right.value : left.kind == VARIABLE;
            if (leftIsWritten) {
                left.written = right;
                wake(left);
            } else {
                right.written = left;
                wake(right);
            }
        }

        private void wake(Node variable) {
            int stay = 0;
            for (int left = asleep.size(); left > 0; left--) {
                Goal goal = asleep.look(stay);
                if (goal != null && goal.awaits(variable)) {
                    asleep.take(stay);
                    goal.awaitNothing();
                    rows[goal.level].append(goal);
                } else {
                    stay++;
                }
            }
        }
    }
}
