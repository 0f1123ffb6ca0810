import java.util.ArrayDeque;
import java.util.ArrayList;
import java.util.HashMap;
import java.util.LinkedHashMap;
import java.util.LinkedHashSet;
import java.util.List;
import java.util.Map;
import java.util.NoSuchElementException;
import java.util.Set;

/**
 * The document read a second time, sentence by sentence and without a thought of room or
 * speed, so that SecondReadingTest can hold the class against it.
 */
final class Plain {
    private interface Term {
    }

    /** A VARIABLE in a text. */
    private record Name(char letter) implements Term {
    }

    /** A NUMBER, or a letter with its ARGUMENTS. */
    private record Fixed(String name, List<Term> parts) implements Term {
    }

    private static final class Variable implements Term {
        final int born;
        Term written;

        Variable(int born) {
            this.born = born;
        }
    }

    /** A GUARD or GOAL of a text; a CALL has the sign ^. */
    private record Item(char sign, Integer level, List<Term> terms) {
    }

    private record Clause(Fixed head, List<Item> guards, List<Item> goals) {
    }

    private static final class Goal {
        final char sign;
        final int level;
        final List<Term> terms;

        Goal(char sign, int level, List<Term> terms) {
            this.sign = sign;
            this.level = level;
            this.terms = terms;
        }
    }

    private static final class Wait extends RuntimeException {
        final transient Variable variable;

        Wait(Variable variable) {
            this.variable = variable;
        }
    }

    private static final class TooMuch extends RuntimeException {
    }

    private static final class Failed extends RuntimeException {
    }

    private String text = "";
    private int at;
    private int place = -1;
    private final List<Clause> clauses = new ArrayList<>();

    private int state;
    private int steps;
    private int born;
    private int sleeps;
    private Map<Character, Term> question = new HashMap<>();
    private final List<ArrayDeque<Goal>> rows = new ArrayList<>();
    // In the order in which they went to sleep.
    private final Map<Goal, Set<Variable>> asleep = new LinkedHashMap<>();

    Plain() {
        for (int level = 0; level <= 3; level++) {
            rows.add(new ArrayDeque<>());
        }
    }

    // Promises 2 to 5.

    int type(long eight) {
        StringBuilder more = new StringBuilder();
        for (int k = 7; k >= 0; k--) {
            int one = (int) (eight >> 8 * k & 0xFF);
            if (one != 0 && (one < 33 || one > 126)) {
                throw new IllegalArgumentException();
            }
            more.append(one == 0 ? "" : String.valueOf((char) one));
        }
        if (text.length() + more.length() > 48) {
            throw new IllegalStateException();
        }
        text += more;
        return text.length();
    }

    private String emptied() {
        String old = text;
        text = "";
        return old;
    }

    private void mustBeRight(Grammar grammar, String read) {
        if (!grammar.isRight(read)) {
            place = grammar.place(read);
            throw new IllegalArgumentException();
        }
    }

    int add() {
        String read = emptied();
        if (clauses.size() == 12) {
            throw new IllegalStateException();
        }
        mustBeRight(Grammar.CLAUSE, read);
        at = 0;
        Fixed head = (Fixed) readTerm(read);
        List<Item> guards = passes(read, ':') ? readItems(read) : List.of();
        List<Item> goals = passes(read, '|') ? readItems(read) : List.of();
        clauses.add(new Clause(head, guards, goals));
        return clauses.size();
    }

    int drop(int i) {
        if (i < 0 || i >= clauses.size()) {
            throw new IllegalArgumentException();
        }
        clauses.remove(i);
        return 0;
    }

    int ask() {
        String read = emptied();
        mustBeRight(Grammar.QUESTION, read);
        at = 0;
        List<Item> goals = readItems(read);
        state = 1;
        steps = 0;
        born = 0;
        sleeps = 0;
        rows.forEach(ArrayDeque::clear);
        asleep.clear();
        question = new HashMap<>();
        goals.forEach(goal -> put(goal, 1, question));
        return goals.size();
    }

    // Reading, of a text that is known to be right.

    private boolean passes(String read, char character) {
        if (at < read.length() && read.charAt(at) == character) {
            at++;
            return true;
        }
        return false;
    }

    private List<Item> readItems(String read) {
        List<Item> items = new ArrayList<>();
        do {
            items.add(readItem(read));
        } while (passes(read, ','));
        return items;
    }

    private Item readItem(String read) {
        List<Term> terms = new ArrayList<>(List.of(readTerm(read)));
        char sign = at < read.length() ? read.charAt(at) : ',';
        if (sign == ',' || sign == '|') {
            return new Item('^', null, terms);
        }
        at++;
        if (sign == '^') {
            at++;
            return new Item('^', read.charAt(at - 1) - '0', terms);
        }
        terms.add(readTerm(read));
        if (sign == '#') {
            sign = read.charAt(at);
            at++;
            terms.add(readTerm(read));
        }
        return new Item(sign, null, terms);
    }

    private Term readTerm(String read) {
        int from = at;
        char first = read.charAt(at);
        at++;
        if (Character.isUpperCase(first)) {
            return new Name(first);
        }
        if (Character.isDigit(first)) {
            at += at < read.length() && Character.isDigit(read.charAt(at)) ? 1 : 0;
            return number(Integer.parseInt(read.substring(from, at)));
        }
        List<Term> parts = new ArrayList<>();
        if (passes(read, '(')) {
            do {
                parts.add(readTerm(read));
            } while (passes(read, ','));
            at++;
        }
        return new Fixed(String.valueOf(first), parts);
    }

    private static Fixed number(int value) {
        return new Fixed(String.valueOf(value), List.of());
    }

    private static boolean isNumber(Term term) {
        return term instanceof Fixed fixed && !Character.isLetter(fixed.name.charAt(0));
    }

    private static int valueOf(Term term) {
        return Integer.parseInt(((Fixed) term).name);
    }

    // Promise 6.

    int run(int n) {
        if (n < 1 || n > 100) {
            throw new IllegalArgumentException();
        }
        if (state != 1) {
            throw new IllegalStateException();
        }
        try {
            for (int k = 0; k < n && inRows() > 0; k++) {
                step();
            }
        } catch (TooMuch thrown) {
            state = 3;
            throw new IllegalStateException();
        } catch (Failed thrown) {
            state = 2;
            throw new UnsupportedOperationException();
        }
        return inRows() > 0 ? 0 : asleep.isEmpty() ? 1 : 2;
    }

    private int inRows() {
        return rows.stream().mapToInt(ArrayDeque::size).sum();
    }

    private void step() {
        if (steps == 400) {
            throw new TooMuch();
        }
        steps++;
        int level = 3;
        while (rows.get(level).isEmpty()) {
            level--;
        }
        Goal goal = rows.get(level).removeFirst();
        switch (goal.sign) {
            case '^' -> call(goal);
            case '=' -> same(goal.terms.get(0), goal.terms.get(1), new int[1]);
            default -> reckon(goal);
        }
    }

    private void call(Goal goal) {
        Set<Variable> found = new LinkedHashSet<>();
        for (Clause clause : clauses) {
            Map<Character, Term> met = new HashMap<>();
            try {
                if (succeeds(clause, goal.terms.get(0), met)) {
                    clause.goals.forEach(each -> put(each, goal.level, met));
                    return;
                }
            } catch (Wait must) {
                found.add(must.variable);
            }
        }
        if (found.isEmpty()) {
            throw new Failed();
        }
        sleep(goal, found);
    }

    private boolean succeeds(Clause clause, Term call, Map<Character, Term> met) {
        if (!matches(clause.head, call, met)) {
            return false;
        }
        for (Item guard : clause.guards) {
            if (!holds(guard, met)) {
                return false;
            }
        }
        return true;
    }

    private boolean matches(Term pattern, Term given, Map<Character, Term> met) {
        Term term = atLast(given);
        if (pattern instanceof Name name) {
            if (met.containsKey(name.letter)) {
                return alike(met.get(name.letter), term, new int[1]);
            }
            met.put(name.letter, term);
            return true;
        }
        if (term instanceof Variable variable) {
            throw new Wait(variable);
        }
        Fixed wanted = (Fixed) pattern;
        Fixed there = (Fixed) term;
        if (!beginAlike(wanted, there)) {
            return false;
        }
        for (int k = 0; k < wanted.parts.size(); k++) {
            if (!matches(wanted.parts.get(k), there.parts.get(k), met)) {
                return false;
            }
        }
        return true;
    }

    private boolean holds(Item guard, Map<Character, Term> met) {
        if (!guard.terms.stream().allMatch(term -> isOf(met, term))) {
            return false;
        }
        Term first = atLast(made(guard.terms.get(0), met));
        Term second = atLast(made(guard.terms.get(1), met));
        if (guard.sign != '<') {
            return alike(first, second, new int[1]) == (guard.sign == '=');
        }
        mustBeNoVariable(first);
        mustBeNoVariable(second);
        return isNumber(first) && isNumber(second) && valueOf(first) < valueOf(second);
    }

    private static void mustBeNoVariable(Term term) {
        if (term instanceof Variable variable) {
            throw new Wait(variable);
        }
    }

    private static boolean isOf(Map<Character, Term> met, Term term) {
        return term instanceof Name name ? met.containsKey(name.letter)
                : ((Fixed) term).parts.stream().allMatch(part -> isOf(met, part));
    }

    private boolean alike(Term one, Term other, int[] pairs) {
        countPair(pairs);
        Term first = atLast(one);
        Term second = atLast(other);
        if (first instanceof Variable && first == second) {
            return true;
        }
        mustBeNoVariable(first);
        mustBeNoVariable(second);
        Fixed left = (Fixed) first;
        Fixed right = (Fixed) second;
        if (!beginAlike(left, right)) {
            return false;
        }
        for (int k = 0; k < left.parts.size(); k++) {
            if (!alike(left.parts.get(k), right.parts.get(k), pairs)) {
                return false;
            }
        }
        return true;
    }

    private static void countPair(int[] pairs) {
        pairs[0]++;
        if (pairs[0] > 60) {
            throw new TooMuch();
        }
    }

    private static boolean beginAlike(Fixed left, Fixed right) {
        return left.name.equals(right.name) && left.parts.size() == right.parts.size();
    }

    private void same(Term one, Term other, int[] pairs) {
        countPair(pairs);
        Term first = atLast(one);
        Term second = atLast(other);
        if (first instanceof Variable left && second instanceof Variable right) {
            if (left != right) {
                Variable later = left.born > right.born ? left : right;
                write(later, later == left ? right : left);
            }
        } else if (first instanceof Variable left) {
            write(left, second);
        } else if (second instanceof Variable right) {
            write(right, first);
        } else {
            sameParts((Fixed) first, (Fixed) second, pairs);
        }
    }

    private void sameParts(Fixed left, Fixed right, int[] pairs) {
        if (!beginAlike(left, right)) {
            throw new Failed();
        }
        for (int k = 0; k < left.parts.size(); k++) {
            same(left.parts.get(k), right.parts.get(k), pairs);
        }
    }

    private void reckon(Goal goal) {
        Term left = atLast(goal.terms.get(1));
        Term right = atLast(goal.terms.get(2));
        if (left instanceof Variable variable) {
            sleep(goal, Set.of(variable));
        } else if (right instanceof Variable variable) {
            sleep(goal, Set.of(variable));
        } else if (!isNumber(left) || !isNumber(right)) {
            throw new Failed();
        } else {
            int a = valueOf(left);
            int b = valueOf(right);
            int outcome = goal.sign == '+' ? a + b : goal.sign == '-' ? a - b : a * b;
            same(goal.terms.get(0), number(outcome), new int[1]);
        }
    }

    private void put(Item item, int around, Map<Character, Term> met) {
        List<Term> terms = item.terms.stream().map(term -> made(term, met)).toList();
        if (inRows() + asleep.size() == 60) {
            throw new TooMuch();
        }
        Goal goal = new Goal(item.sign, item.level == null ? around : item.level, terms);
        rows.get(goal.level).addLast(goal);
    }

    private Term made(Term term, Map<Character, Term> met) {
        if (term instanceof Name name) {
            if (!met.containsKey(name.letter)) {
                born++;
                met.put(name.letter, new Variable(born));
            }
            return met.get(name.letter);
        }
        Fixed fixed = (Fixed) term;
        return new Fixed(fixed.name, fixed.parts.stream().map(part -> made(part, met)).toList());
    }

    private static Term atLast(Term term) {
        Term last = term;
        while (last instanceof Variable variable && variable.written != null) {
            last = variable.written;
        }
        return last;
    }

    private void sleep(Goal goal, Set<Variable> variables) {
        asleep.put(goal, variables);
        sleeps++;
    }

    private void write(Variable variable, Term term) {
        variable.written = term;
        List<Goal> woken = asleep.keySet().stream()
                .filter(goal -> asleep.get(goal).contains(variable)).toList();
        for (Goal goal : woken) {
            asleep.remove(goal);
            rows.get(goal.level).addLast(goal);
        }
    }

    // Promises 7 to 9.

    private Term named(int v) {
        if (v < 0 || v > 25) {
            throw new IllegalArgumentException();
        }
        return question.get((char) ('A' + v));
    }

    int letter(int v, int i) {
        Term term = named(v);
        if (term == null) {
            throw new NoSuchElementException();
        }
        StringBuilder written = new StringBuilder();
        write(term, written);
        written.setLength(Math.min(80, written.length()));
        if (i != -1 && (i < 0 || i >= written.length())) {
            throw new NoSuchElementException();
        }
        return i == -1 ? written.length() : written.charAt(i);
    }

    private static void write(Term term, StringBuilder written) {
        if (written.length() >= 80) {
            return;
        }
        if (!(atLast(term) instanceof Fixed fixed)) {
            written.append('_');
            return;
        }
        written.append(fixed.name);
        String before = "(";
        for (Term part : fixed.parts) {
            written.append(before);
            write(part, written);
            before = ",";
        }
        written.append(fixed.parts.isEmpty() ? "" : ")");
    }

    int sleeping(int v) {
        Term term = named(v);
        if (term == null) {
            return -1;
        }
        Term last = atLast(term);
        return (int) asleep.values().stream().filter(each -> each.stream().anyMatch(
                variable -> variable == last)).count();
    }

    int count(int what) {
        return switch (what) {
            case 0 -> place;
            case 1 -> text.length();
            case 2 -> clauses.size();
            case 3 -> steps;
            case 4 -> inRows();
            case 5 -> asleep.size();
            case 6 -> born;
            case 7 -> sleeps;
            case 8 -> state;
            case 10, 11, 12, 13 -> rows.get(what - 10).size();
            default -> -1;
        };
    }
}
