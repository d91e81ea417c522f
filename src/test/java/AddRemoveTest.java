/** Promises 2 and 3: add and remove. */
public final class AddRemoveTest {
    private static final String WRONG = "IllegalArgumentException";
    private static final long A = 'a';

    public static void main(String[] args) {
        putsAndTakes();
        wrongTerms();
        fullStore();
        keysAreWords();
        Check.end();
    }

    private static void putsAndTakes() {
        TripleStore store = new TripleStore();
        Check.due("a new one", Check.add(store, "ann knows bob"), "1");
        Check.due("it is there", Check.add(store, "ann knows bob"), "0");
        Check.due("another object", Check.add(store, "ann knows 0"), "1");
        Check.due("another predicate", Check.add(store, "ann likes bob"), "1");
        Check.due("another subject", Check.add(store, "bob knows bob"), "1");
        Check.due("triples", store.count(0), 4);
        Check.due("one that is not there", Check.remove(store, "ann knows cyd"), "0");
        Check.due("one that is there", Check.remove(store, "ann knows bob"), "1");
        Check.due("it is gone", Check.remove(store, "ann knows bob"), "0");
        Check.due("triples", store.count(0), 3);
        Check.dueRows(store, "select ?x ?y ?z{?x ?y ?z}", "ann knows 0, ann likes bob, bob knows bob");
    }

    private static void wrongTerms() {
        long[] wrong = {0, 1, ' ', 'A', 'Z', '`', '{', 'a' - 32, 0x6100, 0x610061, 0x6101, 0x0161,
            0x6180, 0x8061, 0x6161616161616100L, 0x4161616161616161L, -10001, -20000,
            Long.MIN_VALUE, Long.MAX_VALUE, 0xe161616161616161L, 0x6161616161616141L};
        long[] words = {'a', 'z', 0x6162, 0x6161616161616161L, 0x7a7a7a7a7a7a7a7aL};
        for (long term : wrong) {
            dueAt("no term " + term, term, WRONG, WRONG, WRONG);
        }
        for (long word : words) {
            dueAt("word " + word, word, "1", "1", "1");
        }
        for (long number : new long[] {-1, -2, -9999, -10000}) {
            dueAt("number " + number, number, WRONG, WRONG, "1");
        }
    }

    /** The answers of add and remove with the term as subject, predicate and object. */
    private static void dueAt(String what, long term, String subject, String predicate, String object) {
        TripleStore store = new TripleStore();
        store.add(A, A, 'b');
        Check.due(what + " as subject", Check.answer(() -> store.add(term, A, -7)), subject);
        Check.due(what + " as predicate", Check.answer(() -> store.add('q', term, -7)), predicate);
        Check.due(what + " as object", Check.answer(() -> store.add('r', A, term)), object);
        int puts = (subject.equals("1") ? 1 : 0) + (predicate.equals("1") ? 1 : 0) + (object.equals("1") ? 1 : 0);
        Check.due(what + " put in", store.count(0), 1 + puts);
        Check.due(what + " from subject", Check.answer(() -> store.remove(term, A, -7)), subject);
        Check.due(what + " from predicate", Check.answer(() -> store.remove('q', term, -7)), predicate);
        Check.due(what + " from object", Check.answer(() -> store.remove('r', A, term)), object);
        Check.due(what + " taken out", store.count(0), 1);
        Check.due(what + " committed", store.count(3), 1 + 2 * puts);
    }

    private static void fullStore() {
        TripleStore store = new TripleStore();
        for (int n = 0; n < 48; n++) {
            Check.due("number " + n, store.add(A, A, -1 - n), 1);
        }
        Check.due("the 49th", Check.add(store, "a a 48"), "IllegalStateException");
        Check.due("one that is there", Check.add(store, "a a 47"), "0");
        Check.due("a wrong one comes first", Check.answer(() -> store.add(A, -1, A)), WRONG);
        Check.due("removing what is not there", Check.remove(store, "a a 48"), "0");
        Check.due("triples", store.count(0), 48);
        Check.due("committed", store.count(3), 48);
        Check.due("removing one", Check.remove(store, "a a 5"), "1");
        Check.due("room again", Check.add(store, "a a 48"), "1");
        Check.due("full again", Check.add(store, "a a 5"), "IllegalStateException");
        store.begin();
        Check.due("full in a transaction", Check.add(store, "a a 5"), "IllegalStateException");
        Check.due("no change", store.count(5), 0);
    }

    private static void keysAreWords() {
        TripleStore store = Check.storeOf("select filter union");
        Check.dueRows(store, "select ?x ?y ?z{?x ?y ?z}", "select filter union");
    }
}
