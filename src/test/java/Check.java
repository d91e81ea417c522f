import java.util.NoSuchElementException;
import java.util.Objects;

/** What the tests share: terms, calls that answer texts, and the count of wrong answers. */
final class Check {
    interface Call {
        long run();
    }

    private static int made = 0;
    private static int wrong = 0;
    private static int sentences = 0;
    private static String sentence = "";

    private Check() {
    }

    /** A test of one sentence of the document: it has answers of its own, and lets the others run. */
    static void sentence(String quoted, Runnable test) {
        int before = made;
        sentence = quoted;
        sentences++;
        due("what it throws", thrown(test), "nothing");
        if (made == before + 1) {
            due("answers", made - before - 1, "some");
        }
        sentence = "";
    }

    private static String thrown(Runnable test) {
        try {
            test.run();
            return "nothing";
        } catch (RuntimeException e) {
            return e + " at " + e.getStackTrace()[0];
        }
    }

    static void due(String what, Object got, Object due) {
        made++;
        if (!Objects.equals(got, due)) {
            wrong++;
            String where = sentence.isEmpty() ? "" : " (\"" + sentence + "\")";
            System.out.println(what + ": answered " + got + ", due is " + due + where);
        }
    }

    static void due(String what, long got, long due) {
        due(what, Long.valueOf(got), Long.valueOf(due));
    }

    /** The answer of a call as a text, or the name of what it throws. */
    static String answer(Call call) {
        try {
            return String.valueOf(call.run());
        } catch (RuntimeException e) {
            return e.getClass().getSimpleName();
        }
    }

    static void end() {
        String shown = sentences == 0 ? "" : sentences + " sentences, ";
        System.out.println(shown + made + " answers, " + wrong + " wrong");
        if (wrong != 0 || made == 0) {
            System.exit(1);
        }
    }

    static long term(String text) {
        if (Character.isDigit(text.charAt(0))) {
            return -1 - Long.parseLong(text);
        }
        return packed(text);
    }

    static long packed(String text) {
        long value = 0;
        for (char c : text.toCharArray()) {
            value = value << 8 | c;
        }
        return value;
    }

    static String text(long term) {
        if (term < 0) {
            return String.valueOf(-1 - term);
        }
        StringBuilder letters = new StringBuilder();
        for (long rest = term; rest != 0; rest >>>= 8) {
            letters.append((char) (rest & 255));
        }
        return letters.reverse().toString();
    }

    /** "ann knows bob" as the arguments of add. */
    static String add(TripleStore store, String triple) {
        String[] terms = triple.split(" ");
        return answer(() -> store.add(term(terms[0]), term(terms[1]), term(terms[2])));
    }

    static String remove(TripleStore store, String triple) {
        String[] terms = triple.split(" ");
        return answer(() -> store.remove(term(terms[0]), term(terms[1]), term(terms[2])));
    }

    static TripleStore storeOf(String... triples) {
        TripleStore store = new TripleStore();
        for (String triple : triples) {
            due("add " + triple, add(store, triple), "1");
        }
        return store;
    }

    static TripleStore fullStore() {
        TripleStore store = new TripleStore();
        for (int n = 0; n < 48; n++) {
            store.add('a', 'b', -1 - n);
        }
        return store;
    }

    static void write(TripleStore store, String query) {
        for (int from = 0; from < query.length(); from += 8) {
            String part = query.substring(from, Math.min(from + 8, query.length()));
            store.append(packed(part), part.length());
        }
    }

    /** All that an ask answers: "fault 7", "too many", or the rows, as in "ann 7, bob -". */
    static String ask(TripleStore store, String query) {
        write(store, query);
        String answer = answer(store::ask);
        due("the text behind " + query, store.count(6), 0);
        if (answer.equals("IllegalArgumentException")) {
            return "fault " + store.fault();
        }
        due("fault of " + query, store.fault(), -1);
        if (answer.equals("IllegalStateException")) {
            due("rows of " + query, store.count(2), 0);
            return "too many";
        }
        due("rows of " + query, String.valueOf(store.count(2)), answer);
        return rows(store);
    }

    static String rows(TripleStore store) {
        StringBuilder rows = new StringBuilder();
        int columns = store.count(1);
        int size = store.count(2);
        for (int row = 0; row < size; row++) {
            rows.append(row == 0 ? "" : ", ");
            for (int column = 0; column < columns; column++) {
                rows.append(column == 0 ? "" : " ").append(cell(store, row, column));
            }
        }
        return rows.toString();
    }

    /** All that the calls of the face tell of an object without changing it. */
    static String state(TripleStore store) {
        StringBuilder state = new StringBuilder();
        for (int what = 0; what <= 6; what++) {
            state.append(store.count(what)).append(' ');
        }
        return state.append("fault ").append(store.fault()).append(" rows ").append(rows(store)).toString();
    }

    static String cell(TripleStore store, int row, int column) {
        try {
            return text(store.cell(row, column));
        } catch (UnsupportedOperationException e) {
            return "-";
        } catch (NoSuchElementException e) {
            return "none";
        }
    }

    /** What ask answers: how many rows, or the name of what it throws. */
    static String asked(TripleStore store, String query) {
        write(store, query);
        return answer(store::ask);
    }

    static void dueRows(TripleStore store, String query, String due) {
        due(query, ask(store, query), due);
    }

    static void dueFault(String query, int place) {
        due(query, ask(new TripleStore(), query), "fault " + place);
    }

    /** The query has no fault, whatever it answers. */
    static void dueGood(String query) {
        TripleStore store = new TripleStore();
        ask(store, query);
        due("fault of " + query, store.fault(), -1);
    }
}
