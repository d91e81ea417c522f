/** What the document says of all calls, and promise 1: one test for each sentence that names an edge. */
public final class CallSentencesTest {
    private static final String WRONG = "IllegalArgumentException";
    private static final String STATE = "IllegalStateException";
    private static final String NONE = "NoSuchElementException";
    private static final String TOO_MANY = "select ?x{?x ?y ?z.?a ?b ?c}";

    public static void main(String[] args) {
        Check.sentence("An object is used for at most 512 calls after it has been made", CallSentencesTest::calls);
        Check.sentence("What is thrown is told in the order of testing", CallSentencesTest::orderOfTesting);
        Check.sentence("a call that throws changes nothing but what is told", CallSentencesTest::refusedChanges);
        Check.sentence("a call that throws changes nothing but what is told", CallSentencesTest::refusedTransactions);
        Check.sentence("a call that throws changes nothing but what is told", CallSentencesTest::refusedCrash);
        Check.sentence("a call that throws changes nothing but what is told", CallSentencesTest::refusedAppend);
        Check.sentence("a call that throws changes nothing but what is told", CallSentencesTest::refusedReads);
        Check.sentence("makes an object in the state that the terms give", CallSentencesTest::newObject);
        Check.end();
    }

    private static void calls() {
        changesFor512Calls();
        transactionsFor512Calls();
        textsFor512Calls();
    }

    private static void changesFor512Calls() {
        TripleStore store = new TripleStore();
        for (int n = 1; n <= 256; n++) {
            Check.due("call " + (2 * n - 1), Check.add(store, "a b " + n), "1");
            Check.due("call " + 2 * n, Check.remove(store, "a b " + n), "1");
        }
        TripleStore crashed = new TripleStore();
        for (int n = 1; n <= 511; n++) {
            Check.due("call " + n, n % 2 == 1 ? Check.add(crashed, "a b c") : Check.remove(crashed, "a b c"), "1");
        }
        Check.due("call 512", crashed.crash(0), 0);
        TripleStore back = Check.storeOf("a b c");
        back.begin();
        for (int n = 3; n <= 511; n++) {
            Check.due("call " + n, n % 2 == 1 ? Check.remove(back, "a b c") : Check.add(back, "a b c"), "1");
        }
        Check.due("call 512", back.rollback(), 509);
    }

    private static void transactionsFor512Calls() {
        TripleStore store = new TripleStore();
        for (int n = 0; n < 255; n++) {
            Check.due("begin", store.begin(), n);
            Check.due("commit", store.commit(), 0);
        }
        Check.due("call 511", store.count(4), 255);
        Check.due("call 512", store.sync(), 255);
    }

    private static void textsFor512Calls() {
        TripleStore store = Check.storeOf("a b c");
        for (int n = 0; n < 127; n++) {
            Check.write(store, n % 2 == 0 ? "select ?x{a b ?x}" : "select ?x{a b ?y}");
            Check.due("ask", store.ask(), 1);
        }
        Check.due("the last one's row", Check.cell(store, 0, 0), "c");
    }

    private static void orderOfTesting() {
        TripleStore store = Check.fullStore();
        Check.due("no word, and full", Check.answer(() -> store.add(-1, 'b', 'c')), WRONG);
        Check.due("no term, and full", Check.answer(() -> store.add('a', 'b', 0)), WRONG);
        Check.due("full", Check.answer(() -> store.add('a', 'b', 'c')), STATE);
        Check.due("too many, and a fault", Check.asked(store, TOO_MANY + "."), WRONG);
        Check.due("too many", Check.asked(store, TOO_MANY), STATE);
        Check.write(store, " ".repeat(160));
        Check.due("n, and too long", Check.answer(() -> store.append(' ', 9)), WRONG);
        Check.due("n 0, and full", Check.answer(() -> store.append(' ', 0)), WRONG);
        Check.due("a code, and too long", Check.answer(() -> store.append(31, 1)), WRONG);
        Check.due("too long", Check.answer(() -> store.append(' ', 1)), STATE);
    }

    private static void dueRefused(TripleStore store, String what, Check.Call call, String due) {
        String before = Check.state(store);
        Check.due(what, Check.answer(call), due);
        Check.due("behind " + what, Check.state(store), before);
    }

    /** Has rows, a fault, a text, and an open transaction. */
    private static TripleStore storeInUse() {
        TripleStore store = Check.storeOf("a b c", "a b d");
        store.sync();
        Check.add(store, "a b e");
        Check.asked(store, "select ?x ?w{a b ?x}");
        Check.asked(store, "select");
        store.begin();
        Check.add(store, "a b f");
        Check.write(store, "select ?x{a b ?x");
        return store;
    }

    private static void refusedChanges() {
        TripleStore store = storeInUse();
        dueRefused(store, "a wrong add", () -> store.add(0, 'b', 'c'), WRONG);
        dueRefused(store, "a wrong object", () -> store.add('x', 'b', -10001), WRONG);
        dueRefused(store, "a wrong remove", () -> store.remove('a', 'b', 0), WRONG);
        dueRefused(store, "a wrong predicate", () -> store.remove('a', -1, 'c'), WRONG);
        Check.due("one change", store.commit(), 1);
        TripleStore full = Check.fullStore();
        dueRefused(full, "an add too many", () -> full.add('a', 'b', 'c'), STATE);
        Check.due("it left nothing to lose", full.crash(48), 48);
    }

    private static void refusedTransactions() {
        TripleStore store = storeInUse();
        dueRefused(store, "begin", store::begin, STATE);
        Check.due("the open one goes on", store.rollback(), 1);
        dueRefused(store, "commit", store::commit, STATE);
        dueRefused(store, "rollback", store::rollback, STATE);
        Check.due("none is open", store.begin(), 3);
    }

    private static void refusedCrash() {
        TripleStore store = storeInUse();
        dueRefused(store, "crash", () -> store.crash(-1), WRONG);
        dueRefused(store, "crash", () -> store.crash(1001), WRONG);
        Check.due("the open one is open", store.commit(), 1);
        Check.due("all can be kept", store.crash(2), 4);
    }

    private static void refusedAppend() {
        TripleStore store = storeInUse();
        dueRefused(store, "n", () -> store.append('}', 0), WRONG);
        dueRefused(store, "n", () -> store.append('}', 9), WRONG);
        dueRefused(store, "a last code", () -> store.append('}' << 8 | 127, 2), WRONG);
        dueRefused(store, "a first code", () -> store.append(31 << 8 | '}', 2), WRONG);
        Check.write(store, " ".repeat(142));
        dueRefused(store, "too long", () -> store.append(Check.packed("}}}"), 3), STATE);
        Check.due("the text is what it was", Check.ask(store, "}"), "c, d, e, f");
    }

    private static void refusedReads() {
        TripleStore store = storeInUse();
        dueRefused(store, "no place", () -> store.cell(9, 9), NONE);
        dueRefused(store, "no term", () -> store.cell(0, 1), "UnsupportedOperationException");
        dueRefused(store, "no count", () -> store.count(7), WRONG);
    }

    private static void newObject() {
        TripleStore store = new TripleStore();
        Check.due("state", Check.state(store), "0 0 0 0 0 0 0 fault -1 rows ");
        Check.due("no cell", Check.cell(store, 0, 0), "none");
        Check.due("nothing to sync", store.sync(), 0);
        Check.due("nothing to lose", store.crash(0), 0);
        Check.due("nothing to take out", Check.remove(store, "a b c"), "0");
        Check.due("no text", Check.ask(store, ""), "fault 0");
        Check.due("none open, none committed", store.begin(), 0);
    }
}
