import java.util.ArrayList;
import java.util.Arrays;
import java.util.Collections;
import java.util.Comparator;
import java.util.HashSet;
import java.util.LinkedHashSet;
import java.util.List;
import java.util.Map;
import java.util.NoSuchElementException;
import java.util.Set;
import java.util.TreeMap;
import java.util.regex.Matcher;
import java.util.regex.Pattern;

/**
 * The document told once more, by other means than the program's: terms are texts, every commit
 * keeps a copy of the store, and a query is answered while it is read a second time.
 */
final class Model {
    private static final Set<String> KEYS = new HashSet<>(Arrays.asList("select", "distinct", "order", "desc",
        "limit", "filter", "optional", "minus", "union", "not", "bound"));
    private static final Pattern TOKEN = Pattern.compile(" *([a-z]+|[0-9]+|\\?[a-z]*|[^ ])");
    private static final Comparator<String> TERMS = Model::compareTerms;

    private Set<List<String>> triples = new LinkedHashSet<>();
    private Set<List<String>> synced = new LinkedHashSet<>();
    private final List<Set<List<String>>> unsynced = new ArrayList<>();
    private Set<List<String>> beforeOpen = null;
    private int changes = 0;
    private int committed = 0;
    private final StringBuilder text = new StringBuilder();
    private int fault = -1;
    private int columns = 0;
    private List<List<String>> rows = new ArrayList<>();

    private List<String> tokens;
    private List<Integer> starts;
    private int end;
    private int at;
    private Set<String> variables;
    private int elements;

    private static int compareTerms(String one, String other) {
        if (one == null || other == null) {
            return Boolean.compare(one != null, other != null);
        }
        boolean oneNumber = Character.isDigit(one.charAt(0));
        boolean otherNumber = Character.isDigit(other.charAt(0));
        if (oneNumber && otherNumber) {
            return Integer.compare(Integer.parseInt(one), Integer.parseInt(other));
        }
        return oneNumber != otherNumber ? (oneNumber ? -1 : 1) : one.compareTo(other);
    }

    private static boolean isWord(String text) {
        return text.matches("[a-z]{1,8}");
    }

    private static List<String> triple(long subject, long predicate, long object) {
        List<String> triple = Arrays.asList(Check.text(subject), Check.text(predicate), Check.text(object));
        boolean number = object < 0 && object >= -10000;
        if (!isWord(triple.get(0)) || !isWord(triple.get(1)) || !number && !isWord(triple.get(2))) {
            throw new IllegalArgumentException();
        }
        return triple;
    }

    int add(long subject, long predicate, long object) {
        List<String> triple = triple(subject, predicate, object);
        if (triples.contains(triple)) {
            return 0;
        }
        if (triples.size() == 48) {
            throw new IllegalStateException();
        }
        triples.add(triple);
        changed();
        return 1;
    }

    int remove(long subject, long predicate, long object) {
        if (!triples.remove(triple(subject, predicate, object))) {
            return 0;
        }
        changed();
        return 1;
    }

    private void changed() {
        if (beforeOpen != null) {
            changes++;
        } else {
            keepCommitted();
        }
    }

    private void keepCommitted() {
        committed++;
        unsynced.add(new LinkedHashSet<>(triples));
    }

    int begin() {
        if (beforeOpen != null) {
            throw new IllegalStateException();
        }
        beforeOpen = new LinkedHashSet<>(triples);
        return committed;
    }

    int commit() {
        int made = close();
        keepCommitted();
        return made;
    }

    int rollback() {
        Set<List<String>> before = beforeOpen;
        int made = close();
        triples = before;
        return made;
    }

    private int close() {
        if (beforeOpen == null) {
            throw new IllegalStateException();
        }
        int made = changes;
        changes = 0;
        beforeOpen = null;
        return made;
    }

    int sync() {
        int n = unsynced.size();
        if (n > 0) {
            synced = unsynced.get(n - 1);
        }
        unsynced.clear();
        return n;
    }

    int crash(int keep) {
        if (keep < 0 || keep > 1000) {
            throw new IllegalArgumentException();
        }
        if (keep > 0 && !unsynced.isEmpty()) {
            synced = unsynced.get(Math.min(keep, unsynced.size()) - 1);
        }
        unsynced.clear();
        triples = new LinkedHashSet<>(synced);
        beforeOpen = null;
        changes = 0;
        return triples.size();
    }

    int append(long value, int n) {
        if (n < 1 || n > 8) {
            throw new IllegalArgumentException();
        }
        StringBuilder part = new StringBuilder();
        for (int i = 0; i < n; i++) {
            part.insert(0, (char) (value >> 8 * i & 255));
        }
        if (!part.toString().matches("[ -~]*")) {
            throw new IllegalArgumentException();
        }
        if (text.length() + n > 160) {
            throw new IllegalStateException();
        }
        return text.append(part).length();
    }

    int fault() {
        return fault;
    }

    long cell(int row, int column) {
        if (row < 0 || row >= rows.size() || column < 0 || column >= columns) {
            throw new NoSuchElementException();
        }
        String term = rows.get(row).get(column);
        if (term == null) {
            throw new UnsupportedOperationException();
        }
        return Check.term(term);
    }

    int count(int what) {
        int[] counts = {triples.size(), columns, rows.size(), committed, unsynced.size(), changes, text.length()};
        if (what < 0 || what >= counts.length) {
            throw new IllegalArgumentException();
        }
        return counts[what];
    }

    int ask() {
        splitTokens();
        text.setLength(0);
        variables = new HashSet<>();
        elements = 0;
        at = 0;
        try {
            readQuery(false);
            fault = -1;
        } catch (IllegalArgumentException e) {
            fault = at < starts.size() ? starts.get(at) : end;
            throw e;
        }
        at = 0;
        rows = new ArrayList<>();
        elements = 0;
        readQuery(true);
        return rows.size();
    }

    private void splitTokens() {
        tokens = new ArrayList<>();
        starts = new ArrayList<>();
        end = 0;
        Matcher matcher = TOKEN.matcher(text);
        while (matcher.find()) {
            tokens.add(matcher.group(1));
            starts.add(matcher.start(1));
            end = matcher.end(1);
        }
    }

    private String peek() {
        return at < tokens.size() ? tokens.get(at) : "";
    }

    private boolean skip(String token) {
        boolean there = peek().equals(token);
        at += there ? 1 : 0;
        return there;
    }

    private void need(boolean good) {
        if (!good) {
            throw new IllegalArgumentException();
        }
    }

    private boolean atVariable() {
        return peek().matches("\\?[a-z]{1,8}");
    }

    private boolean atTerm() {
        return peek().matches("[0-9]{1,4}") || isWord(peek()) && !KEYS.contains(peek());
    }

    private String variable() {
        need(atVariable());
        need(variables.contains(peek()) || variables.size() < 6);
        variables.add(peek());
        return tokens.get(at++);
    }

    private String side() {
        if (!atTerm()) {
            return variable();
        }
        String term = tokens.get(at++);
        return isWord(term) ? term : String.valueOf(Integer.parseInt(term));
    }

    private void readQuery(boolean answer) {
        need(skip("select"));
        boolean distinct = skip("distinct");
        List<String> selected = new ArrayList<>();
        do {
            need(selected.size() < 6);
            selected.add(variable());
        } while (atVariable());
        if (answer) {
            columns = selected.size();
        }
        List<Map<String, String>> solutions = group(1, answer);
        String order = skip("order") ? variable() : null;
        boolean falling = order != null && skip("desc");
        int limit = 9999;
        if (skip("limit")) {
            need(peek().matches("[0-9]{1,4}"));
            limit = Integer.parseInt(tokens.get(at++));
        }
        need(at == tokens.size());
        if (answer) {
            rows = sorted(solutions, selected, order, falling);
            rows = distinct ? new ArrayList<>(new LinkedHashSet<>(rows)) : rows;
            rows = rows.subList(0, Math.min(limit, rows.size()));
        }
    }

    private static List<List<String>> sorted(List<Map<String, String>> solutions, List<String> selected,
            String order, boolean falling) {
        Comparator<Map<String, String>> by = (one, other) -> 0;
        if (order != null) {
            by = Comparator.comparing(s -> s.get(order), falling ? Collections.reverseOrder(TERMS) : TERMS);
        }
        for (String variable : selected) {
            by = by.thenComparing(s -> s.get(variable), TERMS);
        }
        solutions.sort(by);
        List<List<String>> rows = new ArrayList<>();
        for (Map<String, String> solution : solutions) {
            List<String> row = new ArrayList<>();
            for (String variable : selected) {
                row.add(solution.get(variable));
            }
            rows.add(row);
        }
        return rows;
    }

    private List<Map<String, String>> group(int depth, boolean answer) {
        need(peek().equals("{") && depth <= 4);
        at++;
        List<Map<String, String>> list = new ArrayList<>();
        list.add(new TreeMap<>());
        List<int[]> tests = new ArrayList<>();
        if (skip("}")) {
            return list;
        }
        do {
            need(elements < 12);
            elements++;
            if (skip("filter")) {
                tests.add(new int[] {at});
                test(new TreeMap<>(), 0);
            } else {
                list = element(list, depth, answer);
            }
        } while (skip("."));
        need(skip("}"));
        int behind = at;
        List<Map<String, String>> left = new ArrayList<>();
        for (Map<String, String> solution : list) {
            boolean all = true;
            for (int[] place : tests) {
                at = place[0];
                all &= test(solution, 0);
            }
            if (all) {
                left.add(solution);
            }
        }
        at = behind;
        return left;
    }

    private List<Map<String, String>> element(List<Map<String, String>> list, int depth, boolean answer) {
        List<Map<String, String>> made = new ArrayList<>();
        if (skip("minus")) {
            List<Map<String, String>> inner = group(depth + 1, answer);
            for (Map<String, String> solution : list) {
                if (inner.stream().noneMatch(i -> joined(i, solution) != null
                        && i.keySet().stream().anyMatch(solution::containsKey))) {
                    made.add(solution);
                }
            }
            return made;
        }
        boolean optional = skip("optional");
        List<Map<String, String>> inner = new ArrayList<>();
        if (optional) {
            inner = group(depth + 1, answer);
        } else if (peek().equals("{")) {
            int groups = 0;
            do {
                need(peek().equals("{") && groups < 12);
                groups++;
                inner.addAll(group(depth + 1, answer));
            } while (skip("union"));
        } else {
            inner = matches(side(), side(), side());
        }
        for (Map<String, String> solution : list) {
            int before = made.size();
            for (Map<String, String> other : inner) {
                Map<String, String> both = joined(solution, other);
                if (both != null) {
                    made.add(both);
                }
            }
            if (optional && made.size() == before) {
                made.add(solution);
            }
        }
        if (answer && made.size() > 150) {
            throw new IllegalStateException();
        }
        return answer ? made : list;
    }

    private List<Map<String, String>> matches(String... sides) {
        List<Map<String, String>> found = new ArrayList<>();
        for (List<String> triple : triples) {
            Map<String, String> solution = new TreeMap<>();
            boolean fits = true;
            for (int i = 0; i < 3; i++) {
                String term = triple.get(i);
                if (sides[i].startsWith("?")) {
                    fits &= solution.getOrDefault(sides[i], term).equals(term);
                    solution.put(sides[i], term);
                } else {
                    fits &= sides[i].equals(term);
                }
            }
            if (fits) {
                found.add(solution);
            }
        }
        return found;
    }

    private static Map<String, String> joined(Map<String, String> one, Map<String, String> other) {
        Map<String, String> both = new TreeMap<>(one);
        for (Map.Entry<String, String> entry : other.entrySet()) {
            String had = both.put(entry.getKey(), entry.getValue());
            if (had != null && !had.equals(entry.getValue())) {
                return null;
            }
        }
        return both;
    }

    private boolean test(Map<String, String> solution, int nots) {
        if (peek().equals("not")) {
            need(nots < 4);
            at++;
            return !test(solution, nots + 1);
        }
        if (skip("bound")) {
            return solution.containsKey(variable());
        }
        String left = side();
        left = left.startsWith("?") ? solution.get(left) : left;
        need(peek().matches("[=<>!]"));
        String sign = tokens.get(at++);
        String right = side();
        right = right.startsWith("?") ? solution.get(right) : right;
        if (left == null || right == null) {
            return false;
        }
        int compared = compareTerms(left, right);
        switch (sign) {
            case "=":
                return compared == 0;
            case "!":
                return compared != 0;
            case "<":
                return compared < 0;
            default:
                return compared > 0;
        }
    }
}
