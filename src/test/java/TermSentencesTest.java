/** The section Terms, as far as the transactions: one test for each sentence that names an edge. */
public final class TermSentencesTest {
    private static final String WRONG = "IllegalArgumentException";
    private static final String STATE = "IllegalStateException";
    private static final String OBJECTS = "select ?o{?s ?p ?o}";
    private static final long SEVEN_LETTERS = Check.packed("aaaaaaa");

    public static void main(String[] args) {
        Check.sentence("TERMS are WORDS, 1 to 8 small letters", TermSentencesTest::letters);
        Check.sentence("TERMS are WORDS, 1 to 8 small letters", TermSentencesTest::lengthsOfWords);
        Check.sentence("NUMBERS, 0 to 9999", TermSentencesTest::numbers);
        Check.sentence("In calls and answers a word is a long, its letters' codes packed, the last one lowest",
            TermSentencesTest::packedWords);
        Check.sentence("a number n is -1 - n", TermSentencesTest::shownNumbers);
        Check.sentence("Of two terms a number is the LESS one beside a word", TermSentencesTest::numberBesideWord);
        Check.sentence("of two numbers the one with the less value", TermSentencesTest::twoNumbers);
        Check.sentence("of two words the one that comes first in the alphabet (ab before abc before b)",
            TermSentencesTest::twoWords);
        Check.sentence("THE STORE is a set of at most 48 TRIPLES", TermSentencesTest::fullStore);
        Check.sentence("THE STORE is a set", TermSentencesTest::setOfTriples);
        Check.sentence("TRIPLES: a subject and a predicate, words, and an object, a term.",
            TermSentencesTest::kindsOfTriples);
        Check.sentence("A TRANSACTION is open or not (at first).", TermSentencesTest::openOrNot);
        Check.sentence("Changes are seen at once", TermSentencesTest::seenAtOnce);
        Check.sentence("outside of a transaction each one is a transaction of its own",
            TermSentencesTest::transactionsOfTheirOwn);
        Check.sentence("COMMITTED transactions are SYNCED or not: syncing takes all up to now.",
            TermSentencesTest::syncedUpToNow);
        Check.sentence("A CRASH leaves what the synced ones have made of the store",
            TermSentencesTest::crashWithoutOthers);
        Check.sentence("and the first so many of the others", TermSentencesTest::crashWithOthers);
        Check.sentence("an open one is lost", TermSentencesTest::crashWithAnOpenOne);
        Check.end();
    }

    private static String put(long subject, long predicate, long object) {
        TripleStore store = new TripleStore();
        return Check.answer(() -> store.add(subject, predicate, object));
    }

    private static void dueAnywhere(String what, long term, String due) {
        Check.due(what + " as subject", put(term, 'a', 'a'), due);
        Check.due(what + " as predicate", put('a', term, 'a'), due);
        Check.due(what + " as object", put('a', 'a', term), due);
    }

    private static boolean isSmallLetter(int code) {
        return "abcdefghijklmnopqrstuvwxyz".indexOf(code) >= 0;
    }

    private static void letters() {
        for (int code = 1; code < 256; code++) {
            String due = isSmallLetter(code) ? "1" : WRONG;
            dueAnywhere("code " + code, code, due);
            dueAnywhere("first code " + code, code << 8 | 'a', due);
            dueAnywhere("last code " + code, 'a' << 8 | code, due);
            dueAnywhere("code within " + code, 'a' << 16 | code << 8 | 'z', due);
            dueAnywhere("first code of eight " + code, (long) code << 56 | SEVEN_LETTERS, due);
            dueAnywhere("last code of eight " + code, SEVEN_LETTERS << 8 | code, due);
        }
        dueAnywhere("a gap at the end", 'a' << 8, WRONG);
        dueAnywhere("a gap within", 'a' << 16 | 'a', WRONG);
        dueAnywhere("a gap behind seven", SEVEN_LETTERS << 8, WRONG);
    }

    private static void lengthsOfWords() {
        dueAnywhere("no letter", 0, WRONG);
        for (int letters = 1; letters <= 8; letters++) {
            dueAnywhere("a, " + letters, Check.packed("a".repeat(letters)), "1");
            dueAnywhere("z, " + letters, Check.packed("z".repeat(letters)), "1");
        }
    }

    private static void numbers() {
        Check.due("0", put('a', 'a', -1), "1");
        Check.due("9999", put('a', 'a', -10000), "1");
        Check.due("10000", put('a', 'a', -10001), WRONG);
        Check.due("the greatest", put('a', 'a', Long.MIN_VALUE), WRONG);
        Check.due("what an int would make 0 of", put('a', 'a', -1 - (1L << 32)), WRONG);
        Check.due("0 without -1", put('a', 'a', 0), WRONG);
    }

    private static void packedWords() {
        TripleStore store = new TripleStore();
        store.add(0x616263, 0x70, 0x6162636465666768L);
        Check.due("rows", Check.asked(store, "select ?x ?y ?z{?x ?y ?z.abc p abcdefgh}"), "1");
        Check.due("three letters", store.cell(0, 0), 0x616263);
        Check.due("one letter", store.cell(0, 1), 0x70);
        Check.due("eight letters", store.cell(0, 2), 0x6162636465666768L);
        Check.due("the other way round", Check.asked(store, "select ?x{cba p ?x}"), "0");
    }

    private static void shownNumbers() {
        TripleStore store = new TripleStore();
        store.add('a', 'p', -1);
        store.add('a', 'p', -10000);
        Check.due("rows", Check.asked(store, "select ?x{?s p ?x.a p 0.a p 9999}"), "2");
        Check.due("0", store.cell(0, 0), -1);
        Check.due("9999", store.cell(1, 0), -10000);
        Check.due("another number", Check.asked(store, "select ?x{a p 1}"), "0");
    }

    /** Every one is less than all that follow it, in tests and in rows. */
    private static void dueRising(String... terms) {
        TripleStore store = new TripleStore();
        for (int i = terms.length - 1; i >= 0; i--) {
            Check.add(store, "a a " + terms[i]);
        }
        Check.dueRows(store, OBJECTS, String.join(", ", terms));
        for (int i = 0; i < terms.length; i++) {
            for (int j = 0; j < terms.length; j++) {
                dueTest(terms[i] + "<" + terms[j], i < j);
                dueTest(terms[i] + ">" + terms[j], i > j);
            }
        }
    }

    private static void dueTest(String test, boolean holds) {
        String query = "select ?x{filter " + test + "}";
        Check.due(query, Check.asked(new TripleStore(), query), holds ? "1" : "0");
    }

    private static void numberBesideWord() {
        dueRising("0", "a");
        dueRising("0", "9999", "a", "aaaaaaaa", "zzzzzzzz");
    }

    private static void twoNumbers() {
        dueRising("0", "1", "2", "9", "10", "11", "99", "100", "999", "1000", "9998", "9999");
    }

    private static void twoWords() {
        dueRising("ab", "abc", "b");
        dueRising("a", "aa", "aaaaaaa", "aaaaaaaa", "aaaaaaab", "ab", "abaaaaaa", "az", "b", "ba", "y", "yzzzzzzz",
            "z", "za", "zzzzzzzy", "zzzzzzzz");
    }

    private static TripleStore storeWith(int triples) {
        TripleStore store = new TripleStore();
        for (int n = 0; n < triples; n++) {
            Check.due("triple " + n, store.add('a', 'a', -1 - n), 1);
        }
        return store;
    }

    private static void fullStore() {
        TripleStore store = storeWith(48);
        Check.due("48", store.count(0), 48);
        Check.due("the 49th", Check.add(store, "b b b"), STATE);
        Check.due("48 still", store.count(0), 48);
        Check.due("all are found", Check.asked(store, OBJECTS), "48");
        Check.remove(store, "a a 0");
        Check.due("the 48th again", Check.add(store, "b b b"), "1");
        store.begin();
        Check.due("the 49th in a transaction", Check.add(store, "c c c"), STATE);
        Check.remove(store, "b b b");
        Check.due("the 48th in a transaction", Check.add(store, "c c c"), "1");
        Check.due("both changes back", store.rollback(), 2);
        Check.due("full behind a rollback", Check.add(store, "c c c"), STATE);
        Check.due("it has what it had", Check.asked(store, "select ?x{b b b}"), "1");
    }

    private static void setOfTriples() {
        TripleStore store = Check.storeOf("a b c");
        Check.due("once more", Check.add(store, "a b c"), "0");
        Check.due("one", store.count(0), 1);
        Check.dueRows(store, OBJECTS, "c");
        Check.due("out", Check.remove(store, "a b c"), "1");
        Check.due("none is left of it", store.count(0), 0);
    }

    private static void kindsOfTriples() {
        for (long number : new long[] {-1, -2, -10000}) {
            Check.due("subject " + number, put(number, 'a', 'a'), WRONG);
            Check.due("predicate " + number, put('a', number, 'a'), WRONG);
            Check.due("object " + number, put('a', 'a', number), "1");
        }
        Check.due("three words", put('a', 'a', 'a'), "1");
    }

    private static void openOrNot() {
        TripleStore store = new TripleStore();
        Check.due("none to commit", Check.answer(store::commit), STATE);
        Check.due("none to take back", Check.answer(store::rollback), STATE);
        Check.due("begin", Check.answer(store::begin), "0");
        Check.due("not two", Check.answer(store::begin), STATE);
    }

    private static void seenAtOnce() {
        TripleStore store = Check.storeOf("a b c");
        Check.dueRows(store, OBJECTS, "c");
        store.begin();
        Check.add(store, "a b d");
        Check.dueRows(store, OBJECTS, "c, d");
        Check.due("count", store.count(0), 2);
        Check.remove(store, "a b c");
        Check.dueRows(store, OBJECTS, "d");
        Check.due("not there any more", Check.remove(store, "a b c"), "0");
        Check.due("there already", Check.add(store, "a b d"), "0");
        store.rollback();
        Check.dueRows(store, OBJECTS, "c");
    }

    private static void transactionsOfTheirOwn() {
        TripleStore store = Check.storeOf("a b c", "a b d");
        Check.due("two", store.count(3), 2);
        Check.remove(store, "a b c");
        Check.due("three", store.count(3), 3);
        Check.due("three to sync", store.count(4), 3);
        Check.due("the first one alone", store.crash(1), 1);
        Check.dueRows(store, OBJECTS, "c");
    }

    private static void syncedUpToNow() {
        TripleStore store = Check.storeOf("a b c", "a b d");
        Check.due("both", store.sync(), 2);
        Check.add(store, "a b e");
        Check.due("the later one is not", store.count(4), 1);
        Check.due("it is lost", store.crash(0), 2);
        Check.dueRows(store, OBJECTS, "c, d");
    }

    private static void crashWithoutOthers() {
        TripleStore store = new TripleStore();
        Check.due("an empty store", store.crash(0), 0);
        Check.add(store, "a b c");
        Check.add(store, "a b d");
        Check.remove(store, "a b c");
        store.sync();
        Check.due("all synced", store.crash(0), 1);
        Check.dueRows(store, OBJECTS, "d");
        Check.remove(store, "a b d");
        Check.due("a removal is lost", store.crash(0), 1);
        Check.dueRows(store, OBJECTS, "d");
    }

    private static void crashWithOthers() {
        String[] left = {"1", "1, 2", "2", "2", "2, 3, 4", "1, 2, 3, 4", "1, 2, 3, 4"};
        for (int keep = 0; keep < left.length; keep++) {
            TripleStore store = Check.storeOf("a a 1");
            store.sync();
            Check.add(store, "a a 2");
            Check.remove(store, "a a 1");
            store.begin();
            store.commit();
            store.begin();
            Check.add(store, "a a 3");
            Check.add(store, "a a 4");
            store.commit();
            Check.add(store, "a a 1");
            Check.due("the others", store.count(4), 5);
            Check.due("keep " + keep, store.crash(keep), left[keep].split(", ").length);
            Check.dueRows(store, OBJECTS, left[keep]);
        }
    }

    private static void crashWithAnOpenOne() {
        for (int keep : new int[] {0, 1, 2, 1000}) {
            TripleStore store = Check.storeOf("a a 1");
            store.begin();
            Check.add(store, "a a 2");
            Check.remove(store, "a a 1");
            Check.due("keep " + keep, store.crash(keep), keep == 0 ? 0 : 1);
            Check.dueRows(store, OBJECTS, keep == 0 ? "" : "1");
            Check.due("none is open", Check.answer(store::rollback), STATE);
            Check.due("no changes", store.count(5), 0);
            Check.due("it was not committed", store.count(3), 1);
        }
        TripleStore store = new TripleStore();
        store.begin();
        Check.add(store, "a a 1");
        store.sync();
        Check.due("a sync does not reach it", store.crash(1000), 0);
    }
}
