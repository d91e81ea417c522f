/** Promises 4 to 8: begin, commit, rollback, sync and crash. */
public final class TransactionTest {
    private static final String STATE = "IllegalStateException";
    private static final String ALL = "select ?x ?y ?z{?x ?y ?z}";

    public static void main(String[] args) {
        openOrNot();
        commitCounts();
        rollbackTakesBack();
        syncCounts();
        changesOfNothing();
        crashKeeps();
        crashAndOpenOne();
        crashRange();
        crashUndoesRemovals();
        crashLeavesTheQuery();
        Check.end();
    }

    private static void openOrNot() {
        TripleStore store = new TripleStore();
        Check.due("commit, none open", Check.answer(store::commit), STATE);
        Check.due("rollback, none open", Check.answer(store::rollback), STATE);
        Check.due("begin", Check.answer(store::begin), "0");
        Check.due("begin, one open", Check.answer(store::begin), STATE);
        Check.due("commit", Check.answer(store::commit), "0");
        Check.due("commit again", Check.answer(store::commit), STATE);
        Check.due("begin behind one", Check.answer(store::begin), "1");
        Check.due("rollback", Check.answer(store::rollback), "0");
        Check.due("rollback again", Check.answer(store::rollback), STATE);
        Check.due("begin behind a rollback", Check.answer(store::begin), "1");
    }

    private static void commitCounts() {
        TripleStore store = Check.storeOf("a b c", "d e f");
        Check.due("two adds are two transactions", store.begin(), 2);
        Check.add(store, "a b c");
        Check.add(store, "g h 1");
        Check.remove(store, "g h 1");
        Check.remove(store, "g h 1");
        Check.add(store, "g h 1");
        Check.due("seen at once", store.count(0), 3);
        Check.due("changes so far", store.count(5), 3);
        Check.due("not committed yet", store.count(3), 2);
        Check.due("commit", store.commit(), 3);
        Check.due("none open", store.count(5), 0);
        Check.due("committed", store.count(3), 3);
        Check.due("kept", Check.ask(store, ALL), "a b c, d e f, g h 1");
    }

    private static void rollbackTakesBack() {
        TripleStore store = Check.storeOf("a b c", "d e f");
        store.begin();
        Check.remove(store, "a b c");
        Check.add(store, "g h 1");
        Check.add(store, "a b c");
        Check.remove(store, "d e f");
        Check.remove(store, "a b c");
        Check.due("rollback", store.rollback(), 5);
        Check.due("as before", Check.ask(store, ALL), "a b c, d e f");
        Check.due("no changes", store.count(5), 0);
        Check.due("committed", store.count(3), 2);
        Check.due("not synced", store.count(4), 2);
    }

    private static void syncCounts() {
        TripleStore store = Check.storeOf("a b c", "d e f");
        Check.due("two", store.sync(), 2);
        Check.due("none more", store.sync(), 0);
        store.begin();
        Check.add(store, "g h 1");
        Check.due("the open one is not committed", store.sync(), 0);
        Check.due("it is open still", store.commit(), 1);
        store.begin();
        Check.add(store, "i j 2");
        Check.due("the one before", store.sync(), 1);
        Check.due("it can be taken back", store.rollback(), 1);
        Check.due("triples", store.count(0), 3);
        store.begin();
        store.commit();
        Check.due("an empty one counts", store.count(4), 1);
        Check.due("an empty one is synced", store.sync(), 1);
    }

    private static void changesOfNothing() {
        TripleStore store = Check.storeOf("a b c");
        store.sync();
        Check.add(store, "a b c");
        Check.remove(store, "a b d");
        Check.answer(() -> store.add(0, 0, 0));
        Check.due("none", store.sync(), 0);
        Check.due("committed", store.count(3), 1);
    }

    private static void crashKeeps() {
        for (int keep = 0; keep <= 6; keep++) {
            TripleStore store = Check.storeOf("a a 1");
            store.sync();
            Check.add(store, "a a 2");
            store.begin();
            Check.add(store, "a a 3");
            Check.add(store, "a a 4");
            store.commit();
            store.begin();
            store.commit();
            Check.remove(store, "a a 1");
            String[] left = {"1", "1, 2", "1, 2, 3, 4", "1, 2, 3, 4", "2, 3, 4", "2, 3, 4", "2, 3, 4"};
            int[] triples = {1, 2, 4, 4, 3, 3, 3};
            Check.due("not synced", store.count(4), 4);
            Check.due("crash " + keep, store.crash(keep), triples[keep]);
            Check.dueRows(store, "select ?x{a a ?x}", left[keep]);
            Check.due("committed, lost ones too", store.count(3), 5);
            Check.due("none unsynced", store.count(4), 0);
            Check.due("all synced", store.sync(), 0);
            Check.due("crash again", store.crash(0), triples[keep]);
            Check.add(store, "a a 9");
            Check.due("one more", store.count(3), 6);
            Check.due("lost", store.crash(0), triples[keep]);
            Check.dueRows(store, "select ?x{a a ?x}", left[keep]);
        }
    }

    private static void crashAndOpenOne() {
        TripleStore store = Check.storeOf("a a 1");
        store.begin();
        Check.add(store, "a a 2");
        Check.remove(store, "a a 1");
        Check.due("the open one is lost", store.crash(1000), 1);
        Check.dueRows(store, "select ?x{a a ?x}", "1");
        Check.due("none is open", Check.answer(store::commit), STATE);
        Check.due("no changes", store.count(5), 0);
        Check.due("committed", store.begin(), 1);
        Check.add(store, "a a 3");
        Check.due("a crash with one open", store.crash(0), 1);
        store.begin();
        Check.add(store, "a a 4");
        store.sync();
        Check.due("a sync does not save it", store.crash(5), 1);
    }

    private static void crashRange() {
        TripleStore store = Check.storeOf("a a 1");
        store.begin();
        for (int keep : new int[] {-1, 1001, Integer.MIN_VALUE, Integer.MAX_VALUE}) {
            Check.due("crash " + keep, Check.answer(() -> store.crash(keep)), "IllegalArgumentException");
        }
        Check.due("nothing happened", store.count(4), 1);
        Check.due("it is open", store.commit(), 0);
        Check.due("the least", Check.answer(() -> store.crash(0)), "0");
        Check.due("the greatest", Check.answer(() -> store.crash(1000)), "0");
    }

    private static void crashUndoesRemovals() {
        TripleStore store = new TripleStore();
        for (int n = 0; n < 48; n++) {
            Check.add(store, "a a " + n);
        }
        store.sync();
        for (int n = 0; n < 48; n++) {
            Check.remove(store, "a a " + n);
            Check.add(store, "b b " + n);
        }
        Check.due("half of them", store.crash(49), 47);
        Check.due("the first ones", Check.ask(store, "select ?x{b b ?x}order ?x desc limit 2"), "23, 22");
        Check.due("the old ones", Check.ask(store, "select ?x{a a ?x}limit 1"), "25");
        Check.due("the old ones, all", store.count(2) + store.count(0), 48);
    }

    private static void crashLeavesTheQuery() {
        TripleStore store = Check.storeOf("a b c");
        Check.dueRows(store, "select ?x{?x b c}", "a");
        Check.write(store, "select ?x");
        store.crash(0);
        Check.due("the text", store.count(6), 9);
        Check.due("the rows", Check.rows(store), "a");
    }
}
