/** Promises 2 to 8: one test for each sentence that names an edge. */
public final class StoreCallSentencesTest {
    private static final String WRONG = "IllegalArgumentException";
    private static final String STATE = "IllegalStateException";
    private static final String ALL = "select ?x ?y ?z{?x ?y ?z}";
    private static final int[] FAR = {Integer.MIN_VALUE, -1000, -1, Integer.MAX_VALUE};

    public static void main(String[] args) {
        Check.sentence("Puts a triple into the store: 1 if it was not there, else 0.",
            StoreCallSentencesTest::addAnswers);
        Check.sentence("IllegalArgumentException: one is no term, or subject or predicate is no word.",
            StoreCallSentencesTest::addWrong);
        Check.sentence("IllegalStateException: 48 are there (and it is not).", StoreCallSentencesTest::addFull);
        Check.sentence("Takes a triple out of the store: 1 if it was there, else 0.",
            StoreCallSentencesTest::removeAnswers);
        Check.sentence("IllegalArgumentException: likewise.", StoreCallSentencesTest::removeWrong);
        Check.sentence("Opens a transaction; answers how many were committed so far.", StoreCallSentencesTest::begin);
        Check.sentence("IllegalStateException: one is open.", StoreCallSentencesTest::beginOpen);
        Check.sentence("Commits it; answers how many changes it made", StoreCallSentencesTest::commit);
        Check.sentence("(triples put in or taken out that were not, or were, there)",
            StoreCallSentencesTest::commitChanges);
        Check.sentence("IllegalStateException: none is open.", StoreCallSentencesTest::commitNone);
        Check.sentence("Takes all its changes back", StoreCallSentencesTest::rollback);
        Check.sentence("and it is open no more", StoreCallSentencesTest::rollbackCloses);
        Check.sentence("IllegalStateException: none is open.", StoreCallSentencesTest::rollbackNone);
        Check.sentence("All committed transactions are synced; answers how many were not.",
            StoreCallSentencesTest::sync);
        Check.sentence("(An add or remove without a transaction that changes nothing is none.)",
            StoreCallSentencesTest::syncOfNoChange);
        Check.sentence("A crash that leaves so many (0 .. 1000) of the transactions committed but not synced",
            StoreCallSentencesTest::crashKeeps);
        Check.sentence("these are synced then", StoreCallSentencesTest::crashSyncs);
        Check.sentence("Answers how many triples there are.", StoreCallSentencesTest::crashAnswers);
        Check.sentence("IllegalArgumentException: out of range.", StoreCallSentencesTest::crashRange);
        Check.sentence("Nothing is promised beyond the answers and state changes described above",
            StoreCallSentencesTest::crashAlone);
        Check.end();
    }

    private static void addAnswers() {
        TripleStore store = new TripleStore();
        Check.due("into an empty one", Check.add(store, "a b c"), "1");
        Check.due("again", Check.add(store, "a b c"), "0");
        Check.due("another subject", Check.add(store, "b b c"), "1");
        Check.due("another predicate", Check.add(store, "a c c"), "1");
        Check.due("another object", Check.add(store, "a b 0"), "1");
        Check.due("behind a removal", Check.remove(store, "a b c") + Check.add(store, "a b c"), "11");
        Check.dueRows(store, ALL, "a b 0, a b c, a c c, b b c");
    }

    private static void addWrong() {
        for (long wrong : new long[] {0, 'A', '{', '`', ' ', 0x6100, -10001, Long.MIN_VALUE, Long.MAX_VALUE}) {
            TripleStore store = new TripleStore();
            Check.due("subject " + wrong, Check.answer(() -> store.add(wrong, 'b', 'c')), WRONG);
            Check.due("predicate " + wrong, Check.answer(() -> store.add('a', wrong, 'c')), WRONG);
            Check.due("object " + wrong, Check.answer(() -> store.add('a', 'b', wrong)), WRONG);
        }
        for (long number : new long[] {-1, -10000}) {
            TripleStore store = new TripleStore();
            Check.due("subject " + number, Check.answer(() -> store.add(number, 'b', 'c')), WRONG);
            Check.due("predicate " + number, Check.answer(() -> store.add('a', number, 'c')), WRONG);
            Check.due("object " + number, Check.answer(() -> store.add('a', 'b', number)), "1");
        }
    }

    private static void addFull() {
        TripleStore store = Check.fullStore();
        Check.due("it is not", Check.add(store, "a b 48"), STATE);
        for (int n = 0; n < 48; n++) {
            Check.due("it is", Check.add(store, "a b " + n), "0");
        }
        Check.due("48", store.count(0), 48);
        Check.due("one out", Check.remove(store, "a b 47"), "1");
        Check.due("it was, and is not", Check.add(store, "a b 47"), "1");
        Check.due("it is not still", Check.add(store, "a b 48"), STATE);
    }

    private static void removeAnswers() {
        TripleStore store = new TripleStore();
        Check.due("out of an empty one", Check.remove(store, "a b c"), "0");
        Check.add(store, "a b c");
        Check.due("another subject", Check.remove(store, "b b c"), "0");
        Check.due("another predicate", Check.remove(store, "a c c"), "0");
        Check.due("another object", Check.remove(store, "a b b"), "0");
        Check.due("it", Check.remove(store, "a b c"), "1");
        Check.due("again", Check.remove(store, "a b c"), "0");
        TripleStore full = Check.fullStore();
        Check.due("not in a full one", Check.remove(full, "a b 48"), "0");
        for (int n = 47; n >= 0; n--) {
            Check.due("out of a full one", Check.remove(full, "a b " + n), "1");
        }
        Check.due("empty", full.count(0), 0);
    }

    private static void removeWrong() {
        TripleStore store = Check.storeOf("a b c", "a b 0", "a b 9999");
        for (long wrong : new long[] {0, 'A', '{', '`', ' ', 0x6100, -10001, Long.MIN_VALUE, Long.MAX_VALUE}) {
            Check.due("subject " + wrong, Check.answer(() -> store.remove(wrong, 'b', 'c')), WRONG);
            Check.due("predicate " + wrong, Check.answer(() -> store.remove('a', wrong, 'c')), WRONG);
            Check.due("object " + wrong, Check.answer(() -> store.remove('a', 'b', wrong)), WRONG);
        }
        for (long number : new long[] {-1, -10000}) {
            Check.due("subject " + number, Check.answer(() -> store.remove(number, 'b', 'c')), WRONG);
            Check.due("predicate " + number, Check.answer(() -> store.remove('a', number, 'c')), WRONG);
            Check.due("object " + number, Check.answer(() -> store.remove('a', 'b', number)), "1");
        }
    }

    private static void begin() {
        TripleStore store = new TripleStore();
        Check.due("none", store.begin(), 0);
        store.rollback();
        Check.due("a rollback is none", store.begin(), 0);
        store.commit();
        Check.due("an empty one is one", store.begin(), 1);
        store.commit();
        Check.add(store, "a b c");
        Check.remove(store, "a b c");
        Check.remove(store, "a b c");
        Check.due("changes of their own", store.begin(), 4);
        store.crash(0);
        Check.due("lost ones, too", store.begin(), 4);
    }

    private static void beginOpen() {
        TripleStore store = new TripleStore();
        store.begin();
        Check.due("one is", Check.answer(store::begin), STATE);
        store.commit();
        Check.due("none behind a commit", Check.answer(store::begin), "1");
        store.rollback();
        Check.due("none behind a rollback", Check.answer(store::begin), "1");
        store.crash(0);
        Check.due("none behind a crash", Check.answer(store::begin), "1");
        store.sync();
        Check.due("one behind a sync", Check.answer(store::begin), STATE);
    }

    private static void commit() {
        TripleStore store = new TripleStore();
        store.begin();
        Check.due("none", store.commit(), 0);
        Check.due("it is committed", store.count(3), 1);
        store.begin();
        Check.add(store, "a b c");
        Check.due("one", store.commit(), 1);
        store.begin();
        Check.due("not those before", store.commit(), 0);
        Check.due("kept", store.crash(2), 1);
    }

    private static void commitChanges() {
        TripleStore store = Check.storeOf("a b c");
        store.begin();
        Check.add(store, "a b c");
        Check.remove(store, "a b d");
        Check.due("no change", store.count(5), 0);
        Check.add(store, "a b d");
        Check.remove(store, "a b d");
        Check.remove(store, "a b c");
        Check.add(store, "a b c");
        Check.due("there and back", store.commit(), 4);
    }

    private static void commitNone() {
        TripleStore store = new TripleStore();
        Check.due("at first", Check.answer(store::commit), STATE);
        store.begin();
        store.commit();
        Check.due("behind a commit", Check.answer(store::commit), STATE);
        store.begin();
        store.rollback();
        Check.due("behind a rollback", Check.answer(store::commit), STATE);
        store.begin();
        store.crash(0);
        Check.due("behind a crash", Check.answer(store::commit), STATE);
        Check.add(store, "a b c");
        Check.due("behind a change of its own", Check.answer(store::commit), STATE);
    }

    private static void rollback() {
        TripleStore store = Check.fullStore();
        store.begin();
        for (int n = 0; n < 48; n++) {
            Check.remove(store, "a b " + n);
            Check.add(store, "c d " + n);
        }
        Check.due("96 changes", store.rollback(), 96);
        Check.due("48 triples", store.count(0), 48);
        Check.due("the old ones", Check.asked(store, "select ?x{a b ?x}"), "48");
        store.begin();
        Check.due("none", store.rollback(), 0);
        store.begin();
        Check.remove(store, "a b 0");
        Check.add(store, "a b 0");
        Check.remove(store, "a b 0");
        Check.due("one and the same", store.rollback(), 3);
        Check.due("it is there", Check.add(store, "a b 0"), "0");
    }

    private static void rollbackCloses() {
        TripleStore store = new TripleStore();
        store.begin();
        Check.add(store, "a b c");
        store.rollback();
        Check.due("no changes in it", store.count(5), 0);
        Check.due("not committed", store.count(3), 0);
        Check.add(store, "a b d");
        Check.due("a change of its own", store.count(3), 1);
        Check.due("open again", Check.answer(store::begin), "1");
    }

    private static void rollbackNone() {
        TripleStore store = new TripleStore();
        Check.due("at first", Check.answer(store::rollback), STATE);
        store.begin();
        store.rollback();
        Check.due("behind a rollback", Check.answer(store::rollback), STATE);
        store.begin();
        Check.add(store, "a b c");
        store.commit();
        Check.due("behind a commit", Check.answer(store::rollback), STATE);
        store.begin();
        store.crash(1);
        Check.due("behind a crash", Check.answer(store::rollback), STATE);
        Check.due("what was committed stays", store.count(0), 1);
    }

    private static void sync() {
        TripleStore store = new TripleStore();
        Check.due("none", store.sync(), 0);
        Check.add(store, "a b c");
        store.begin();
        store.commit();
        store.begin();
        Check.add(store, "a b d");
        Check.due("two, the open one is none", store.sync(), 2);
        Check.due("none more", store.sync(), 0);
        store.commit();
        Check.due("it is one now", store.sync(), 1);
        Check.add(store, "a b e");
        Check.due("a crash leaves the synced ones", store.crash(0), 2);
        Check.due("and none to sync", store.sync(), 0);
    }

    private static void syncOfNoChange() {
        TripleStore store = Check.storeOf("a b c");
        store.sync();
        Check.add(store, "a b c");
        Check.remove(store, "a b d");
        Check.answer(() -> store.add(0, 0, 0));
        Check.answer(() -> store.remove(0, 0, 0));
        Check.due("none", store.sync(), 0);
        Check.due("one was committed", store.count(3), 1);
        TripleStore full = Check.fullStore();
        full.sync();
        Check.add(full, "c d e");
        Check.due("none in a full one", full.sync(), 0);
    }

    private static void crashKeeps() {
        for (int keep : new int[] {0, 1, 2, 3, 4, 1000}) {
            TripleStore store = Check.storeOf("a b 0");
            store.sync();
            Check.add(store, "a b 1");
            Check.add(store, "a b 2");
            Check.add(store, "a b 3");
            Check.due("keep " + keep, store.crash(keep), 1 + Math.min(keep, 3));
            Check.dueRows(store, "select ?x{a b ?x}order ?x desc limit 1", String.valueOf(Math.min(keep, 3)));
        }
    }

    private static void crashSyncs() {
        TripleStore store = Check.storeOf("a b 1", "a b 2", "a b 3");
        Check.due("two are left", store.crash(2), 2);
        Check.due("none is not synced", store.count(4), 0);
        Check.due("nothing to sync", store.sync(), 0);
        Check.due("two are left still", store.crash(0), 2);
        Check.add(store, "a b 4");
        Check.due("the next one is not", store.crash(0), 2);
        Check.dueRows(store, "select ?x{a b ?x}", "1, 2");
    }

    private static void crashAnswers() {
        TripleStore store = Check.fullStore();
        Check.due("48", store.crash(1000), 48);
        Check.remove(store, "a b 0");
        Check.remove(store, "a b 1");
        Check.due("47", store.crash(1), 47);
        Check.due("47 still", store.crash(0), 47);
        Check.due("as count says", store.count(0), 47);
        Check.due("none", Check.storeOf("a b c").crash(0), 0);
    }

    private static void crashRange() {
        TripleStore store = Check.storeOf("a b c");
        for (int keep : FAR) {
            Check.due("keep " + keep, Check.answer(() -> store.crash(keep)), WRONG);
        }
        Check.due("keep 1001", Check.answer(() -> store.crash(1001)), WRONG);
        Check.due("keep 1000", Check.answer(() -> store.crash(1000)), "1");
        Check.due("keep 0", Check.answer(() -> store.crash(0)), "1");
    }

    /** A crash is told of the store and its transactions, and of nothing else. */
    private static void crashAlone() {
        TripleStore store = Check.storeOf("a b c");
        Check.dueRows(store, "select ?x ?w{a b ?x}", "c -");
        Check.dueRows(store, "select", "fault 6");
        Check.write(store, "select ?x{a b ");
        Check.due("crash", store.crash(0), 0);
        Check.due("rows, fault and text stay", Check.state(store), "0 2 1 1 0 0 14 fault 6 rows c -");
        Check.add(store, "a b d");
        Check.due("the text is read on", Check.ask(store, "?x}"), "d");
    }
}
