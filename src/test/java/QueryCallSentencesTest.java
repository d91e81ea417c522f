/** Promises 9 to 13: one test for each sentence that names an edge. */
public final class QueryCallSentencesTest {
    private static final String WRONG = "IllegalArgumentException";
    private static final String STATE = "IllegalStateException";
    private static final String NONE = "NoSuchElementException";
    private static final String ALL = "select ?x ?y ?z{?x ?y ?z}";
    private static final String TOO_MANY = "select ?x{?x ?y ?z.?a ?b ?c}";
    private static final int[] FAR = {Integer.MIN_VALUE, -1000, -1, Integer.MAX_VALUE};

    public static void main(String[] args) {
        Check.sentence("Puts the n (1 .. 8) lowest bytes of a value, the most significant first, behind the query; "
            + "answers its length.", QueryCallSentencesTest::append);
        Check.sentence("n or a code out of range: IllegalArgumentException.", QueryCallSentencesTest::appendWrong);
        Check.sentence("More than 160 would be there: IllegalStateException.", QueryCallSentencesTest::appendTooLong);
        Check.sentence("Answers the query: how many rows there are", QueryCallSentencesTest::ask);
        Check.sentence("the query's text is empty then in any case", QueryCallSentencesTest::askEmpties);
        Check.sentence("IllegalArgumentException: a fault; the rows stay.", QueryCallSentencesTest::askFault);
        Check.sentence("IllegalStateException: too many solutions; there are no rows then.",
            QueryCallSentencesTest::askTooMany);
        Check.sentence("The place of the fault of the last ask, -1 if it had none, or before the first one.",
            QueryCallSentencesTest::fault);
        Check.sentence("The term in a row and column (from 0) of the last query that had no fault.",
            QueryCallSentencesTest::cell);
        Check.sentence("NoSuchElementException: there is no such place.", QueryCallSentencesTest::cellNowhere);
        Check.sentence("UnsupportedOperationException: the variable is given none.",
            QueryCallSentencesTest::cellWithoutTerm);
        Check.sentence("Triples (0)", QueryCallSentencesTest::countTriples);
        Check.sentence("columns (1) and rows (2) of the last query without a fault",
            QueryCallSentencesTest::countRows);
        Check.sentence("transactions committed so far (3; those lost by crashes, too)",
            QueryCallSentencesTest::countCommitted);
        Check.sentence("of these not synced, and not lost (4)", QueryCallSentencesTest::countUnsynced);
        Check.sentence("changes in the open one (5)", QueryCallSentencesTest::countChanges);
        Check.sentence("characters in the query (6)", QueryCallSentencesTest::countCharacters);
        Check.sentence("IllegalArgumentException: another number.", QueryCallSentencesTest::countOther);
        Check.end();
    }

    private static void append() {
        TripleStore store = Check.storeOf("a b c");
        Check.due("8", store.append(Check.packed("select ?"), 8), 8);
        Check.due("1", store.append(Check.packed("qqqqqqqx"), 1), 9);
        Check.due("7", store.append(0xff00000000000000L | Check.packed("{a b ?x"), 7), 16);
        Check.due("1 of a value below 0", store.append(-256 + '}', 1), 17);
        Check.due("length", store.count(6), 17);
        Check.due("read", store.ask(), 1);
        Check.due("row", Check.rows(store), "c");
        for (int n = 1; n <= 8; n++) {
            Check.due("n " + n, store.append(Check.packed("        "), n), n * (n + 1) / 2);
        }
    }

    private static void appendWrong() {
        TripleStore store = new TripleStore();
        for (int n : FAR) {
            Check.due("n " + n, Check.answer(() -> store.append(Check.packed("aaaaaaaa"), n)), WRONG);
        }
        Check.due("n 0", Check.answer(() -> store.append('a', 0)), WRONG);
        Check.due("n 9", Check.answer(() -> store.append(Check.packed("aaaaaaaa"), 9)), WRONG);
        Check.due("n 8", Check.answer(() -> new TripleStore().append(Check.packed("aaaaaaaa"), 8)), "8");
        Check.due("n 1", Check.answer(() -> new TripleStore().append(Check.packed("aaaaaaaa"), 1)), "1");
        Check.due("code 31", Check.answer(() -> store.append(31, 1)), WRONG);
        Check.due("code 127", Check.answer(() -> store.append(127, 1)), WRONG);
        Check.due("code 0 before a letter", Check.answer(() -> store.append('a', 2)), WRONG);
        Check.due("code 255", Check.answer(() -> store.append(-1, 8)), WRONG);
        Check.due("a code that is not among the lowest", store.append(127 << 8 | 'a', 1), 1);
        Check.due("codes 32 and 126", store.append(32 << 8 | 126, 2), 3);
    }

    private static void appendTooLong() {
        for (int n = 1; n <= 8; n++) {
            int size = n;
            TripleStore store = new TripleStore();
            Check.write(store, " ".repeat(160 - n));
            Check.due("161 by " + n, Check.answer(() -> store.append(Check.packed("aaaaaaaa"), size)), "160");
            Check.due("more", Check.answer(() -> store.append('a', 1)), STATE);
            TripleStore other = new TripleStore();
            Check.write(other, " ".repeat(161 - n));
            Check.due("161 by " + n, Check.answer(() -> other.append(Check.packed("aaaaaaaa"), size)), STATE);
            Check.due("nothing was put", other.count(6), 161 - n);
        }
    }

    private static void ask() {
        TripleStore store = Check.fullStore();
        Check.due("none", Check.asked(store, "select ?x{a c ?x}"), "0");
        Check.due("one", Check.asked(store, "select ?x{a b 5}"), "1");
        Check.due("48", Check.asked(store, "select ?x{a b ?x}"), "48");
        Check.due("some", Check.asked(store, "select ?x{a b ?x}limit 7"), "7");
        Check.due("once", Check.asked(store, "select distinct ?w{a b ?x}"), "1");
        Check.due("150", Check.asked(store, "select ?x{{a b ?x}union{a b ?x}union{a b ?x}union{}union{}union{}"
            + "union{}union{}union{}}"), "150");
        Check.due("the last row", Check.cell(store, 149, 0), "47");
    }

    private static void askEmpties() {
        TripleStore store = Check.fullStore();
        Check.asked(store, ALL);
        Check.due("rows", store.count(6), 0);
        Check.asked(store, "select ?x{");
        Check.due("a fault", store.count(6), 0);
        Check.asked(store, TOO_MANY);
        Check.due("too many", store.count(6), 0);
        Check.asked(store, "~".repeat(160));
        Check.due("160 characters", store.count(6), 0);
        Check.asked(store, "");
        Check.due("nothing", store.count(6), 0);
        Check.due("from the beginning", store.append('a', 1), 1);
    }

    private static void askFault() {
        TripleStore store = Check.storeOf("a b c", "a b d");
        Check.due("before any rows", Check.asked(store, ""), WRONG);
        Check.due("none", store.count(1) + store.count(2), 0);
        Check.dueRows(store, "select ?x ?w{a b ?x}", "c -, d -");
        for (String faulty : new String[] {"", "select ?x{", "select ?x ?y ?z{}a", "select distinct ?x{}limit 0 0"}) {
            Check.due("fault in " + faulty, Check.asked(store, faulty), WRONG);
            Check.due("columns", store.count(1), 2);
            Check.due("rows", Check.rows(store), "c -, d -");
        }
    }

    private static void askTooMany() {
        TripleStore store = Check.fullStore();
        Check.due("rows", Check.asked(store, "select ?x{a b ?x}"), "48");
        Check.due("too many", Check.asked(store, TOO_MANY), STATE);
        Check.due("no rows", store.count(2), 0);
        Check.due("no cell", Check.cell(store, 0, 0), "none");
        Check.due("a fault behind it", Check.asked(store, "select"), WRONG);
        Check.due("no rows still", store.count(2), 0);
    }

    private static void fault() {
        TripleStore store = Check.fullStore();
        Check.due("before the first one", store.fault(), -1);
        Check.write(store, "sel");
        Check.due("still before it", store.fault(), -1);
        Check.asked(store, " ect");
        Check.due("the first token", store.fault(), 0);
        Check.asked(store, "select ?x{" + " ".repeat(149) + "a");
        Check.due("behind all", store.fault(), 160);
        Check.write(store, "select");
        store.crash(1000);
        Check.due("of the last ask", store.fault(), 160);
        Check.due("rows", Check.asked(store, " ?x{}"), "1");
        Check.due("none", store.fault(), -1);
        Check.asked(store, "select");
        Check.due("too many", Check.asked(store, TOO_MANY), STATE);
        Check.due("that is none", store.fault(), -1);
    }

    private static void cell() {
        TripleStore store = Check.storeOf("a b 0", "zzzzzzzz y 9999");
        Check.asked(store, ALL);
        Check.due("first row", store.cell(0, 0), 'a');
        Check.due("first row, last column", store.cell(0, 2), -1);
        Check.due("last row", store.cell(1, 0), 0x7a7a7a7a7a7a7a7aL);
        Check.due("last row, last column", store.cell(1, 2), -10000);
        Check.asked(store, "select ?x{");
        Check.remove(store, "a b 0");
        Check.due("the same", store.cell(0, 2), -1);
    }

    private static void cellNowhere() {
        TripleStore store = new TripleStore();
        Check.due("before any query", Check.answer(() -> store.cell(0, 0)), NONE);
        Check.add(store, "a b c");
        Check.asked(store, "select ?x ?w{a b ?x}");
        for (int far : FAR) {
            Check.due("row " + far, Check.answer(() -> store.cell(far, 0)), NONE);
            Check.due("column " + far, Check.answer(() -> store.cell(0, far)), NONE);
        }
        Check.due("row 1", Check.answer(() -> store.cell(1, 0)), NONE);
        Check.due("column 2", Check.answer(() -> store.cell(0, 2)), NONE);
        Check.due("row 1 of one that is given none", Check.answer(() -> store.cell(1, 1)), NONE);
        Check.asked(store, "select ?x{a c ?x}");
        Check.due("no rows", Check.answer(() -> store.cell(0, 0)), NONE);
        Check.asked(store, "select ?x{a b ?x}limit 0");
        Check.due("limit 0", Check.answer(() -> store.cell(0, 0)), NONE);
    }

    private static void cellWithoutTerm() {
        TripleStore store = Check.storeOf("a b c", "d b e", "a q 1");
        Check.asked(store, "select ?x ?w ?y{?x b ?z.optional{?x q ?y}}");
        Check.due("one that stands nowhere", Check.answer(() -> store.cell(0, 1)), "UnsupportedOperationException");
        Check.due("one that is given one", Check.answer(() -> store.cell(0, 2)), "-2");
        Check.due("one that is not", Check.answer(() -> store.cell(1, 2)), "UnsupportedOperationException");
    }

    private static void countTriples() {
        TripleStore store = new TripleStore();
        Check.due("none", store.count(0), 0);
        for (int n = 0; n < 48; n++) {
            store.add('a', 'b', -1 - n);
            Check.due("triples", store.count(0), n + 1);
        }
        Check.add(store, "c d e");
        Check.due("full", store.count(0), 48);
        Check.remove(store, "a b 0");
        Check.due("one out", store.count(0), 47);
    }

    private static void countRows() {
        TripleStore store = Check.fullStore();
        Check.due("none", store.count(1) + store.count(2), 0);
        Check.asked(store, "select ?x?x?x?x?x?x{a b ?x}");
        Check.due("columns", store.count(1), 6);
        Check.due("rows", store.count(2), 48);
        Check.asked(store, "select ?x{");
        Check.due("columns behind a fault", store.count(1), 6);
        Check.due("rows behind a fault", store.count(2), 48);
        Check.asked(store, "select ?x ?y{a c ?x}");
        Check.due("columns without rows", store.count(1), 2);
        Check.due("no rows", store.count(2), 0);
        Check.asked(store, TOO_MANY);
        Check.due("columns of one that failed", store.count(1), 1);
        Check.due("rows of one that failed", store.count(2), 0);
    }

    private static void countCommitted() {
        TripleStore store = Check.storeOf("a b c", "a b d");
        Check.due("two", store.count(3), 2);
        store.crash(1);
        Check.due("one is lost", store.count(3), 2);
        store.begin();
        Check.add(store, "a b e");
        Check.due("an open one is none", store.count(3), 2);
        store.crash(1000);
        Check.due("nor is a lost one that was open", store.count(3), 2);
        store.begin();
        store.commit();
        Check.due("an empty one", store.count(3), 3);
        store.sync();
        Check.due("a sync changes nothing", store.count(3), 3);
    }

    private static void countUnsynced() {
        TripleStore store = Check.storeOf("a b c", "a b d");
        Check.due("two", store.count(4), 2);
        store.crash(1);
        Check.due("one is synced, one is lost", store.count(4), 0);
        Check.add(store, "a b e");
        store.begin();
        Check.add(store, "a b f");
        Check.due("the open one is none", store.count(4), 1);
        store.sync();
        Check.due("none", store.count(4), 0);
        store.commit();
        Check.due("one", store.count(4), 1);
    }

    private static void countChanges() {
        TripleStore store = Check.storeOf("a b c");
        Check.due("none is open", store.count(5), 0);
        store.begin();
        Check.due("none made", store.count(5), 0);
        Check.add(store, "a b d");
        Check.add(store, "a b d");
        Check.due("one made", store.count(5), 1);
        Check.remove(store, "a b d");
        Check.remove(store, "a b d");
        Check.due("two made", store.count(5), 2);
        store.sync();
        Check.due("a sync changes nothing", store.count(5), 2);
        store.commit();
        Check.due("none is open", store.count(5), 0);
    }

    private static void countCharacters() {
        TripleStore store = new TripleStore();
        Check.due("none", store.count(6), 0);
        Check.write(store, " ".repeat(160));
        Check.due("160", store.count(6), 160);
        Check.answer(() -> store.append(' ', 1));
        Check.due("160 still", store.count(6), 160);
        Check.answer(store::ask);
        Check.due("none again", store.count(6), 0);
    }

    private static void countOther() {
        TripleStore store = new TripleStore();
        for (int what : FAR) {
            Check.due("count " + what, Check.answer(() -> store.count(what)), WRONG);
        }
        Check.due("count 7", Check.answer(() -> store.count(7)), WRONG);
        for (int what = 0; what <= 6; what++) {
            int number = what;
            Check.due("count " + what, Check.answer(() -> store.count(number)), "0");
        }
    }
}
