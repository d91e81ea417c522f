/** Promises 1 to 13 and what is said of all calls: one test for each sentence that names an edge. */
public final class CallSentencesTest {
    private static final String WRONG = "IllegalArgumentException";
    private static final String STATE = "IllegalStateException";
    private static final String NONE = "NoSuchElementException";
    private static final String ALL = "select ?x ?y ?z{?x ?y ?z}";
    private static final String TOO_MANY = "select ?x{?x ?y ?z.?a ?b ?c}";
    private static final int[] FAR = {Integer.MIN_VALUE, -1000, -1, Integer.MAX_VALUE};

    public static void main(String[] args) {
        calls();
        orderOfTesting();
        refusedChanges();
        refusedTransactions();
        refusedCrash();
        refusedAppend();
        refusedReads();
        newObject();
        addAnswers();
        addWrong();
        addFull();
        removeAnswers();
        removeWrong();
        begin();
        beginOpen();
        commit();
        commitChanges();
        commitNone();
        rollback();
        rollbackCloses();
        rollbackNone();
        sync();
        syncOfNoChange();
        crashKeeps();
        crashSyncs();
        crashAnswers();
        crashRange();
        crashAlone();
        append();
        appendWrong();
        appendTooLong();
        ask();
        askEmpties();
        askFault();
        askTooMany();
        fault();
        cell();
        cellNowhere();
        cellWithoutTerm();
        countTriples();
        countRows();
        countCommitted();
        countUnsynced();
        countChanges();
        countCharacters();
        countOther();
        Check.end();
    }

    private static void calls() {
        Check.sentence("An object is used for at most 512 calls after it has been made");
        changesFor512Calls();
        transactionsFor512Calls();
        textsFor512Calls();
    }

    private static void changesFor512Calls() {
        TripleStore store = new TripleStore();
        for (int n = 1; n <= 256; n++) {
            Check.due("call " + (2 * n - 1), Check.add(store, "a b " + n), "1");
            Check.due("call " + 2 * n, Check.remove(store, "a b " + n), "1");
        }
        TripleStore crashed = new TripleStore();
        for (int n = 1; n <= 511; n++) {
            Check.due("call " + n, n % 2 == 1 ? Check.add(crashed, "a b c") : Check.remove(crashed, "a b c"), "1");
        }
        Check.due("call 512", crashed.crash(0), 0);
        TripleStore back = Check.storeOf("a b c");
        back.begin();
        for (int n = 3; n <= 511; n++) {
            Check.due("call " + n, n % 2 == 1 ? Check.remove(back, "a b c") : Check.add(back, "a b c"), "1");
        }
        Check.due("call 512", back.rollback(), 509);
    }

    private static void transactionsFor512Calls() {
        TripleStore store = new TripleStore();
        for (int n = 0; n < 255; n++) {
            Check.due("begin", store.begin(), n);
            Check.due("commit", store.commit(), 0);
        }
        Check.due("call 511", store.count(4), 255);
        Check.due("call 512", store.sync(), 255);
    }

    private static void textsFor512Calls() {
        TripleStore store = Check.storeOf("a b c");
        for (int n = 0; n < 127; n++) {
            Check.write(store, n % 2 == 0 ? "select ?x{a b ?x}" : "select ?x{a b ?y}");
            Check.due("ask", store.ask(), 1);
        }
        Check.due("the last one's row", Check.cell(store, 0, 0), "c");
    }

    private static TripleStore fullStore() {
        TripleStore store = new TripleStore();
        for (int n = 0; n < 48; n++) {
            store.add('a', 'b', -1 - n);
        }
        return store;
    }

    private static void orderOfTesting() {
        Check.sentence("What is thrown is told in the order of testing");
        TripleStore store = fullStore();
        Check.due("no word, and full", Check.answer(() -> store.add(-1, 'b', 'c')), WRONG);
        Check.due("no term, and full", Check.answer(() -> store.add('a', 'b', 0)), WRONG);
        Check.due("full", Check.answer(() -> store.add('a', 'b', 'c')), STATE);
        Check.due("too many, and a fault", Check.asked(store, TOO_MANY + "."), WRONG);
        Check.due("too many", Check.asked(store, TOO_MANY), STATE);
        Check.write(store, " ".repeat(160));
        Check.due("n, and too long", Check.answer(() -> store.append(' ', 9)), WRONG);
        Check.due("n 0, and full", Check.answer(() -> store.append(' ', 0)), WRONG);
        Check.due("a code, and too long", Check.answer(() -> store.append(31, 1)), WRONG);
        Check.due("too long", Check.answer(() -> store.append(' ', 1)), STATE);
    }

    private static void dueRefused(TripleStore store, String what, Check.Call call, String due) {
        String before = Check.state(store);
        Check.due(what, Check.answer(call), due);
        Check.due("behind " + what, Check.state(store), before);
    }

    /** Has rows, a fault, a text, and an open transaction. */
    private static TripleStore storeInUse() {
        TripleStore store = Check.storeOf("a b c", "a b d");
        store.sync();
        Check.add(store, "a b e");
        Check.asked(store, "select ?x ?w{a b ?x}");
        Check.asked(store, "select");
        store.begin();
        Check.add(store, "a b f");
        Check.write(store, "select ?x{a b ?x");
        return store;
    }

    private static void refusedChanges() {
        Check.sentence("a call that throws changes nothing but what is told");
        TripleStore store = storeInUse();
        dueRefused(store, "a wrong add", () -> store.add(0, 'b', 'c'), WRONG);
        dueRefused(store, "a wrong object", () -> store.add('x', 'b', -10001), WRONG);
        dueRefused(store, "a wrong remove", () -> store.remove('a', 'b', 0), WRONG);
        dueRefused(store, "a wrong predicate", () -> store.remove('a', -1, 'c'), WRONG);
        Check.due("one change", store.commit(), 1);
        TripleStore full = fullStore();
        dueRefused(full, "an add too many", () -> full.add('a', 'b', 'c'), STATE);
        Check.due("it left nothing to lose", full.crash(48), 48);
    }

    private static void refusedTransactions() {
        Check.sentence("a call that throws changes nothing but what is told");
        TripleStore store = storeInUse();
        dueRefused(store, "begin", store::begin, STATE);
        Check.due("the open one goes on", store.rollback(), 1);
        dueRefused(store, "commit", store::commit, STATE);
        dueRefused(store, "rollback", store::rollback, STATE);
        Check.due("none is open", store.begin(), 3);
    }

    private static void refusedCrash() {
        Check.sentence("a call that throws changes nothing but what is told");
        TripleStore store = storeInUse();
        dueRefused(store, "crash", () -> store.crash(-1), WRONG);
        dueRefused(store, "crash", () -> store.crash(1001), WRONG);
        Check.due("the open one is open", store.commit(), 1);
        Check.due("all can be kept", store.crash(2), 4);
    }

    private static void refusedAppend() {
        Check.sentence("a call that throws changes nothing but what is told");
        TripleStore store = storeInUse();
        dueRefused(store, "n", () -> store.append('}', 0), WRONG);
        dueRefused(store, "n", () -> store.append('}', 9), WRONG);
        dueRefused(store, "a last code", () -> store.append('}' << 8 | 127, 2), WRONG);
        dueRefused(store, "a first code", () -> store.append(31 << 8 | '}', 2), WRONG);
        Check.write(store, " ".repeat(142));
        dueRefused(store, "too long", () -> store.append(Check.packed("}}}"), 3), STATE);
        Check.due("the text is what it was", Check.ask(store, "}"), "c, d, e, f");
    }

    private static void refusedReads() {
        Check.sentence("a call that throws changes nothing but what is told");
        TripleStore store = storeInUse();
        dueRefused(store, "no place", () -> store.cell(9, 9), NONE);
        dueRefused(store, "no term", () -> store.cell(0, 1), "UnsupportedOperationException");
        dueRefused(store, "no count", () -> store.count(7), WRONG);
    }

    private static void newObject() {
        Check.sentence("makes an object in the state that the terms give");
        TripleStore store = new TripleStore();
        Check.due("state", Check.state(store), "0 0 0 0 0 0 0 fault -1 rows ");
        Check.due("no cell", Check.cell(store, 0, 0), "none");
        Check.due("nothing to sync", store.sync(), 0);
        Check.due("nothing to lose", store.crash(0), 0);
        Check.due("nothing to take out", Check.remove(store, "a b c"), "0");
        Check.due("no text", Check.ask(store, ""), "fault 0");
        Check.due("none open, none committed", store.begin(), 0);
    }

    private static void addAnswers() {
        Check.sentence("Puts a triple into the store: 1 if it was not there, else 0.");
        TripleStore store = new TripleStore();
        Check.due("into an empty one", Check.add(store, "a b c"), "1");
        Check.due("again", Check.add(store, "a b c"), "0");
        Check.due("another subject", Check.add(store, "b b c"), "1");
        Check.due("another predicate", Check.add(store, "a c c"), "1");
        Check.due("another object", Check.add(store, "a b 0"), "1");
        Check.due("behind a removal", Check.remove(store, "a b c") + Check.add(store, "a b c"), "11");
        Check.dueRows(store, ALL, "a b 0, a b c, a c c, b b c");
    }

    private static void addWrong() {
        Check.sentence("IllegalArgumentException: one is no term, or subject or predicate is no word.");
        for (long wrong : new long[] {0, 'A', '{', '`', ' ', 0x6100, -10001, Long.MIN_VALUE, Long.MAX_VALUE}) {
            TripleStore store = new TripleStore();
            Check.due("subject " + wrong, Check.answer(() -> store.add(wrong, 'b', 'c')), WRONG);
            Check.due("predicate " + wrong, Check.answer(() -> store.add('a', wrong, 'c')), WRONG);
            Check.due("object " + wrong, Check.answer(() -> store.add('a', 'b', wrong)), WRONG);
        }
        for (long number : new long[] {-1, -10000}) {
            TripleStore store = new TripleStore();
            Check.due("subject " + number, Check.answer(() -> store.add(number, 'b', 'c')), WRONG);
            Check.due("predicate " + number, Check.answer(() -> store.add('a', number, 'c')), WRONG);
            Check.due("object " + number, Check.answer(() -> store.add('a', 'b', number)), "1");
        }
    }

    private static void addFull() {
        Check.sentence("IllegalStateException: 48 are there (and it is not).");
        TripleStore store = fullStore();
        Check.due("it is not", Check.add(store, "a b 48"), STATE);
        for (int n = 0; n < 48; n++) {
            Check.due("it is", Check.add(store, "a b " + n), "0");
        }
        Check.due("48", store.count(0), 48);
        Check.due("one out", Check.remove(store, "a b 47"), "1");
        Check.due("it was, and is not", Check.add(store, "a b 47"), "1");
        Check.due("it is not still", Check.add(store, "a b 48"), STATE);
    }

    private static void removeAnswers() {
        Check.sentence("Takes a triple out of the store: 1 if it was there, else 0.");
        TripleStore store = new TripleStore();
        Check.due("out of an empty one", Check.remove(store, "a b c"), "0");
        Check.add(store, "a b c");
        Check.due("another subject", Check.remove(store, "b b c"), "0");
        Check.due("another predicate", Check.remove(store, "a c c"), "0");
        Check.due("another object", Check.remove(store, "a b b"), "0");
        Check.due("it", Check.remove(store, "a b c"), "1");
        Check.due("again", Check.remove(store, "a b c"), "0");
        TripleStore full = fullStore();
        Check.due("not in a full one", Check.remove(full, "a b 48"), "0");
        for (int n = 47; n >= 0; n--) {
            Check.due("out of a full one", Check.remove(full, "a b " + n), "1");
        }
        Check.due("empty", full.count(0), 0);
    }

    private static void removeWrong() {
        Check.sentence("IllegalArgumentException: likewise.");
        TripleStore store = Check.storeOf("a b c", "a b 0", "a b 9999");
        for (long wrong : new long[] {0, 'A', '{', '`', ' ', 0x6100, -10001, Long.MIN_VALUE, Long.MAX_VALUE}) {
            Check.due("subject " + wrong, Check.answer(() -> store.remove(wrong, 'b', 'c')), WRONG);
            Check.due("predicate " + wrong, Check.answer(() -> store.remove('a', wrong, 'c')), WRONG);
            Check.due("object " + wrong, Check.answer(() -> store.remove('a', 'b', wrong)), WRONG);
        }
        for (long number : new long[] {-1, -10000}) {
            Check.due("subject " + number, Check.answer(() -> store.remove(number, 'b', 'c')), WRONG);
            Check.due("predicate " + number, Check.answer(() -> store.remove('a', number, 'c')), WRONG);
            Check.due("object " + number, Check.answer(() -> store.remove('a', 'b', number)), "1");
        }
    }

    private static void begin() {
        Check.sentence("Opens a transaction; answers how many were committed so far.");
        TripleStore store = new TripleStore();
        Check.due("none", store.begin(), 0);
        store.rollback();
        Check.due("a rollback is none", store.begin(), 0);
        store.commit();
        Check.due("an empty one is one", store.begin(), 1);
        store.commit();
        Check.add(store, "a b c");
        Check.remove(store, "a b c");
        Check.remove(store, "a b c");
        Check.due("changes of their own", store.begin(), 4);
        store.crash(0);
        Check.due("lost ones, too", store.begin(), 4);
    }

    private static void beginOpen() {
        Check.sentence("IllegalStateException: one is open.");
        TripleStore store = new TripleStore();
        store.begin();
        Check.due("one is", Check.answer(store::begin), STATE);
        store.commit();
        Check.due("none behind a commit", Check.answer(store::begin), "1");
        store.rollback();
        Check.due("none behind a rollback", Check.answer(store::begin), "1");
        store.crash(0);
        Check.due("none behind a crash", Check.answer(store::begin), "1");
        store.sync();
        Check.due("one behind a sync", Check.answer(store::begin), STATE);
    }

    private static void commit() {
        Check.sentence("Commits it; answers how many changes it made");
        TripleStore store = new TripleStore();
        store.begin();
        Check.due("none", store.commit(), 0);
        Check.due("it is committed", store.count(3), 1);
        store.begin();
        Check.add(store, "a b c");
        Check.due("one", store.commit(), 1);
        store.begin();
        Check.due("not those before", store.commit(), 0);
        Check.due("kept", store.crash(2), 1);
    }

    private static void commitChanges() {
        Check.sentence("(triples put in or taken out that were not, or were, there)");
        TripleStore store = Check.storeOf("a b c");
        store.begin();
        Check.add(store, "a b c");
        Check.remove(store, "a b d");
        Check.due("no change", store.count(5), 0);
        Check.add(store, "a b d");
        Check.remove(store, "a b d");
        Check.remove(store, "a b c");
        Check.add(store, "a b c");
        Check.due("there and back", store.commit(), 4);
    }

    private static void commitNone() {
        Check.sentence("IllegalStateException: none is open.");
        TripleStore store = new TripleStore();
        Check.due("at first", Check.answer(store::commit), STATE);
        store.begin();
        store.commit();
        Check.due("behind a commit", Check.answer(store::commit), STATE);
        store.begin();
        store.rollback();
        Check.due("behind a rollback", Check.answer(store::commit), STATE);
        store.begin();
        store.crash(0);
        Check.due("behind a crash", Check.answer(store::commit), STATE);
        Check.add(store, "a b c");
        Check.due("behind a change of its own", Check.answer(store::commit), STATE);
    }

    private static void rollback() {
        Check.sentence("Takes all its changes back");
        TripleStore store = fullStore();
        store.begin();
        for (int n = 0; n < 48; n++) {
            Check.remove(store, "a b " + n);
            Check.add(store, "c d " + n);
        }
        Check.due("96 changes", store.rollback(), 96);
        Check.due("48 triples", store.count(0), 48);
        Check.due("the old ones", Check.asked(store, "select ?x{a b ?x}"), "48");
        store.begin();
        Check.due("none", store.rollback(), 0);
        store.begin();
        Check.remove(store, "a b 0");
        Check.add(store, "a b 0");
        Check.remove(store, "a b 0");
        Check.due("one and the same", store.rollback(), 3);
        Check.due("it is there", Check.add(store, "a b 0"), "0");
    }

    private static void rollbackCloses() {
        Check.sentence("and it is open no more");
        TripleStore store = new TripleStore();
        store.begin();
        Check.add(store, "a b c");
        store.rollback();
        Check.due("no changes in it", store.count(5), 0);
        Check.due("not committed", store.count(3), 0);
        Check.add(store, "a b d");
        Check.due("a change of its own", store.count(3), 1);
        Check.due("open again", Check.answer(store::begin), "1");
    }

    private static void rollbackNone() {
        Check.sentence("IllegalStateException: none is open.");
        TripleStore store = new TripleStore();
        Check.due("at first", Check.answer(store::rollback), STATE);
        store.begin();
        store.rollback();
        Check.due("behind a rollback", Check.answer(store::rollback), STATE);
        store.begin();
        Check.add(store, "a b c");
        store.commit();
        Check.due("behind a commit", Check.answer(store::rollback), STATE);
        store.begin();
        store.crash(1);
        Check.due("behind a crash", Check.answer(store::rollback), STATE);
        Check.due("what was committed stays", store.count(0), 1);
    }

    private static void sync() {
        Check.sentence("All committed transactions are synced; answers how many were not.");
        TripleStore store = new TripleStore();
        Check.due("none", store.sync(), 0);
        Check.add(store, "a b c");
        store.begin();
        store.commit();
        store.begin();
        Check.add(store, "a b d");
        Check.due("two, the open one is none", store.sync(), 2);
        Check.due("none more", store.sync(), 0);
        store.commit();
        Check.due("it is one now", store.sync(), 1);
        Check.add(store, "a b e");
        Check.due("a crash leaves the synced ones", store.crash(0), 2);
        Check.due("and none to sync", store.sync(), 0);
    }

    private static void syncOfNoChange() {
        Check.sentence("(An add or remove without a transaction that changes nothing is none.)");
        TripleStore store = Check.storeOf("a b c");
        store.sync();
        Check.add(store, "a b c");
        Check.remove(store, "a b d");
        Check.answer(() -> store.add(0, 0, 0));
        Check.answer(() -> store.remove(0, 0, 0));
        Check.due("none", store.sync(), 0);
        Check.due("one was committed", store.count(3), 1);
        TripleStore full = fullStore();
        full.sync();
        Check.add(full, "c d e");
        Check.due("none in a full one", full.sync(), 0);
    }

    private static void crashKeeps() {
        Check.sentence("A crash that leaves so many (0 .. 1000) of the transactions committed but not synced");
        for (int keep : new int[] {0, 1, 2, 3, 4, 1000}) {
            TripleStore store = Check.storeOf("a b 0");
            store.sync();
            Check.add(store, "a b 1");
            Check.add(store, "a b 2");
            Check.add(store, "a b 3");
            Check.due("keep " + keep, store.crash(keep), 1 + Math.min(keep, 3));
            Check.dueRows(store, "select ?x{a b ?x}order ?x desc limit 1", String.valueOf(Math.min(keep, 3)));
        }
    }

    private static void crashSyncs() {
        Check.sentence("these are synced then");
        TripleStore store = Check.storeOf("a b 1", "a b 2", "a b 3");
        Check.due("two are left", store.crash(2), 2);
        Check.due("none is not synced", store.count(4), 0);
        Check.due("nothing to sync", store.sync(), 0);
        Check.due("two are left still", store.crash(0), 2);
        Check.add(store, "a b 4");
        Check.due("the next one is not", store.crash(0), 2);
        Check.dueRows(store, "select ?x{a b ?x}", "1, 2");
    }

    private static void crashAnswers() {
        Check.sentence("Answers how many triples there are.");
        TripleStore store = fullStore();
        Check.due("48", store.crash(1000), 48);
        Check.remove(store, "a b 0");
        Check.remove(store, "a b 1");
        Check.due("47", store.crash(1), 47);
        Check.due("47 still", store.crash(0), 47);
        Check.due("as count says", store.count(0), 47);
        Check.due("none", Check.storeOf("a b c").crash(0), 0);
    }

    private static void crashRange() {
        Check.sentence("IllegalArgumentException: out of range.");
        TripleStore store = Check.storeOf("a b c");
        for (int keep : FAR) {
            Check.due("keep " + keep, Check.answer(() -> store.crash(keep)), WRONG);
        }
        Check.due("keep 1001", Check.answer(() -> store.crash(1001)), WRONG);
        Check.due("keep 1000", Check.answer(() -> store.crash(1000)), "1");
        Check.due("keep 0", Check.answer(() -> store.crash(0)), "1");
    }

    /** A crash is told of the store and its transactions, and of nothing else. */
    private static void crashAlone() {
        Check.sentence("Nothing is promised beyond the answers and state changes described above");
        TripleStore store = Check.storeOf("a b c");
        Check.dueRows(store, "select ?x ?w{a b ?x}", "c -");
        Check.dueRows(store, "select", "fault 6");
        Check.write(store, "select ?x{a b ");
        Check.due("crash", store.crash(0), 0);
        Check.due("rows, fault and text stay", Check.state(store), "0 2 1 1 0 0 14 fault 6 rows c -");
        Check.add(store, "a b d");
        Check.due("the text is read on", Check.ask(store, "?x}"), "d");
    }

    private static void append() {
        Check.sentence("Puts the n (1 .. 8) lowest bytes of a value, the most significant first, behind the query; "
            + "answers its length.");
        TripleStore store = Check.storeOf("a b c");
        Check.due("8", store.append(Check.packed("select ?"), 8), 8);
        Check.due("1", store.append(Check.packed("qqqqqqqx"), 1), 9);
        Check.due("7", store.append(0xff00000000000000L | Check.packed("{a b ?x"), 7), 16);
        Check.due("1 of a value below 0", store.append(-256 + '}', 1), 17);
        Check.due("length", store.count(6), 17);
        Check.due("read", store.ask(), 1);
        Check.due("row", Check.rows(store), "c");
        for (int n = 1; n <= 8; n++) {
            Check.due("n " + n, store.append(Check.packed("        "), n), n * (n + 1) / 2);
        }
    }

    private static void appendWrong() {
        Check.sentence("n or a code out of range: IllegalArgumentException.");
        TripleStore store = new TripleStore();
        for (int n : FAR) {
            Check.due("n " + n, Check.answer(() -> store.append(Check.packed("aaaaaaaa"), n)), WRONG);
        }
        Check.due("n 0", Check.answer(() -> store.append('a', 0)), WRONG);
        Check.due("n 9", Check.answer(() -> store.append(Check.packed("aaaaaaaa"), 9)), WRONG);
        Check.due("code 31", Check.answer(() -> store.append(31, 1)), WRONG);
        Check.due("code 127", Check.answer(() -> store.append(127, 1)), WRONG);
        Check.due("code 0 before a letter", Check.answer(() -> store.append('a', 2)), WRONG);
        Check.due("code 255", Check.answer(() -> store.append(-1, 8)), WRONG);
        Check.due("a code that is not among the lowest", store.append(127 << 8 | 'a', 1), 1);
        Check.due("codes 32 and 126", store.append(32 << 8 | 126, 2), 3);
    }

    private static void appendTooLong() {
        Check.sentence("More than 160 would be there: IllegalStateException.");
        for (int n = 1; n <= 8; n++) {
            int size = n;
            TripleStore store = new TripleStore();
            Check.write(store, " ".repeat(160 - n));
            Check.due("161 by " + n, Check.answer(() -> store.append(Check.packed("aaaaaaaa"), size)), "160");
            Check.due("more", Check.answer(() -> store.append('a', 1)), STATE);
            TripleStore other = new TripleStore();
            Check.write(other, " ".repeat(161 - n));
            Check.due("161 by " + n, Check.answer(() -> other.append(Check.packed("aaaaaaaa"), size)), STATE);
            Check.due("nothing was put", other.count(6), 161 - n);
        }
    }

    private static void ask() {
        Check.sentence("Answers the query: how many rows there are");
        TripleStore store = fullStore();
        Check.due("none", Check.asked(store, "select ?x{a c ?x}"), "0");
        Check.due("one", Check.asked(store, "select ?x{a b 5}"), "1");
        Check.due("48", Check.asked(store, "select ?x{a b ?x}"), "48");
        Check.due("some", Check.asked(store, "select ?x{a b ?x}limit 7"), "7");
        Check.due("once", Check.asked(store, "select distinct ?w{a b ?x}"), "1");
        Check.due("150", Check.asked(store, "select ?x{{a b ?x}union{a b ?x}union{a b ?x}union{}union{}union{}"
            + "union{}union{}union{}}"), "150");
        Check.due("the last row", Check.cell(store, 149, 0), "47");
    }

    private static void askEmpties() {
        Check.sentence("the query's text is empty then in any case");
        TripleStore store = fullStore();
        Check.asked(store, ALL);
        Check.due("rows", store.count(6), 0);
        Check.asked(store, "select ?x{");
        Check.due("a fault", store.count(6), 0);
        Check.asked(store, TOO_MANY);
        Check.due("too many", store.count(6), 0);
        Check.asked(store, "~".repeat(160));
        Check.due("160 characters", store.count(6), 0);
        Check.asked(store, "");
        Check.due("nothing", store.count(6), 0);
        Check.due("from the beginning", store.append('a', 1), 1);
    }

    private static void askFault() {
        Check.sentence("IllegalArgumentException: a fault; the rows stay.");
        TripleStore store = Check.storeOf("a b c", "a b d");
        Check.due("before any rows", Check.asked(store, ""), WRONG);
        Check.due("none", store.count(1) + store.count(2), 0);
        Check.dueRows(store, "select ?x ?w{a b ?x}", "c -, d -");
        for (String faulty : new String[] {"", "select ?x{", "select ?x ?y ?z{}a", "select distinct ?x{}limit 0 0"}) {
            Check.due("fault in " + faulty, Check.asked(store, faulty), WRONG);
            Check.due("columns", store.count(1), 2);
            Check.due("rows", Check.rows(store), "c -, d -");
        }
    }

    private static void askTooMany() {
        Check.sentence("IllegalStateException: too many solutions; there are no rows then.");
        TripleStore store = fullStore();
        Check.due("rows", Check.asked(store, "select ?x{a b ?x}"), "48");
        Check.due("too many", Check.asked(store, TOO_MANY), STATE);
        Check.due("no rows", store.count(2), 0);
        Check.due("no cell", Check.cell(store, 0, 0), "none");
        Check.due("a fault behind it", Check.asked(store, "select"), WRONG);
        Check.due("no rows still", store.count(2), 0);
    }

    private static void fault() {
        Check.sentence("The place of the fault of the last ask, -1 if it had none, or before the first one.");
        TripleStore store = fullStore();
        Check.due("before the first one", store.fault(), -1);
        Check.write(store, "sel");
        Check.due("still before it", store.fault(), -1);
        Check.asked(store, " ect");
        Check.due("the first token", store.fault(), 0);
        Check.asked(store, "select ?x{" + " ".repeat(149) + "a");
        Check.due("behind all", store.fault(), 160);
        Check.write(store, "select");
        store.crash(1000);
        Check.due("of the last ask", store.fault(), 160);
        Check.due("rows", Check.asked(store, " ?x{}"), "1");
        Check.due("none", store.fault(), -1);
        Check.asked(store, "select");
        Check.due("too many", Check.asked(store, TOO_MANY), STATE);
        Check.due("that is none", store.fault(), -1);
    }

    private static void cell() {
        Check.sentence("The term in a row and column (from 0) of the last query that had no fault.");
        TripleStore store = Check.storeOf("a b 0", "zzzzzzzz y 9999");
        Check.asked(store, ALL);
        Check.due("first row", store.cell(0, 0), 'a');
        Check.due("first row, last column", store.cell(0, 2), -1);
        Check.due("last row", store.cell(1, 0), 0x7a7a7a7a7a7a7a7aL);
        Check.due("last row, last column", store.cell(1, 2), -10000);
        Check.asked(store, "select ?x{");
        Check.remove(store, "a b 0");
        Check.due("the same", store.cell(0, 2), -1);
    }

    private static void cellNowhere() {
        Check.sentence("NoSuchElementException: there is no such place.");
        TripleStore store = new TripleStore();
        Check.due("before any query", Check.answer(() -> store.cell(0, 0)), NONE);
        Check.add(store, "a b c");
        Check.asked(store, "select ?x ?w{a b ?x}");
        for (int far : FAR) {
            Check.due("row " + far, Check.answer(() -> store.cell(far, 0)), NONE);
            Check.due("column " + far, Check.answer(() -> store.cell(0, far)), NONE);
        }
        Check.due("row 1", Check.answer(() -> store.cell(1, 0)), NONE);
        Check.due("column 2", Check.answer(() -> store.cell(0, 2)), NONE);
        Check.due("row 1 of one that is given none", Check.answer(() -> store.cell(1, 1)), NONE);
        Check.asked(store, "select ?x{a c ?x}");
        Check.due("no rows", Check.answer(() -> store.cell(0, 0)), NONE);
        Check.asked(store, "select ?x{a b ?x}limit 0");
        Check.due("limit 0", Check.answer(() -> store.cell(0, 0)), NONE);
    }

    private static void cellWithoutTerm() {
        Check.sentence("UnsupportedOperationException: the variable is given none.");
        TripleStore store = Check.storeOf("a b c", "d b e", "a q 1");
        Check.asked(store, "select ?x ?w ?y{?x b ?z.optional{?x q ?y}}");
        Check.due("one that stands nowhere", Check.answer(() -> store.cell(0, 1)), "UnsupportedOperationException");
        Check.due("one that is given one", Check.answer(() -> store.cell(0, 2)), "-2");
        Check.due("one that is not", Check.answer(() -> store.cell(1, 2)), "UnsupportedOperationException");
    }

    private static void countTriples() {
        Check.sentence("Triples (0)");
        TripleStore store = new TripleStore();
        Check.due("none", store.count(0), 0);
        for (int n = 0; n < 48; n++) {
            store.add('a', 'b', -1 - n);
            Check.due("triples", store.count(0), n + 1);
        }
        Check.add(store, "c d e");
        Check.due("full", store.count(0), 48);
        Check.remove(store, "a b 0");
        Check.due("one out", store.count(0), 47);
    }

    private static void countRows() {
        Check.sentence("columns (1) and rows (2) of the last query without a fault");
        TripleStore store = fullStore();
        Check.due("none", store.count(1) + store.count(2), 0);
        Check.asked(store, "select ?x?x?x?x?x?x{a b ?x}");
        Check.due("columns", store.count(1), 6);
        Check.due("rows", store.count(2), 48);
        Check.asked(store, "select ?x{");
        Check.due("columns behind a fault", store.count(1), 6);
        Check.due("rows behind a fault", store.count(2), 48);
        Check.asked(store, "select ?x ?y{a c ?x}");
        Check.due("columns without rows", store.count(1), 2);
        Check.due("no rows", store.count(2), 0);
        Check.asked(store, TOO_MANY);
        Check.due("columns of one that failed", store.count(1), 1);
        Check.due("rows of one that failed", store.count(2), 0);
    }

    private static void countCommitted() {
        Check.sentence("transactions committed so far (3; those lost by crashes, too)");
        TripleStore store = Check.storeOf("a b c", "a b d");
        Check.due("two", store.count(3), 2);
        store.crash(1);
        Check.due("one is lost", store.count(3), 2);
        store.begin();
        Check.add(store, "a b e");
        Check.due("an open one is none", store.count(3), 2);
        store.crash(1000);
        Check.due("nor is a lost one that was open", store.count(3), 2);
        store.begin();
        store.commit();
        Check.due("an empty one", store.count(3), 3);
        store.sync();
        Check.due("a sync changes nothing", store.count(3), 3);
    }

    private static void countUnsynced() {
        Check.sentence("of these not synced, and not lost (4)");
        TripleStore store = Check.storeOf("a b c", "a b d");
        Check.due("two", store.count(4), 2);
        store.crash(1);
        Check.due("one is synced, one is lost", store.count(4), 0);
        Check.add(store, "a b e");
        store.begin();
        Check.add(store, "a b f");
        Check.due("the open one is none", store.count(4), 1);
        store.sync();
        Check.due("none", store.count(4), 0);
        store.commit();
        Check.due("one", store.count(4), 1);
    }

    private static void countChanges() {
        Check.sentence("changes in the open one (5)");
        TripleStore store = Check.storeOf("a b c");
        Check.due("none is open", store.count(5), 0);
        store.begin();
        Check.due("none made", store.count(5), 0);
        Check.add(store, "a b d");
        Check.add(store, "a b d");
        Check.due("one made", store.count(5), 1);
        Check.remove(store, "a b d");
        Check.remove(store, "a b d");
        Check.due("two made", store.count(5), 2);
        store.sync();
        Check.due("a sync changes nothing", store.count(5), 2);
        store.commit();
        Check.due("none is open", store.count(5), 0);
    }

    private static void countCharacters() {
        Check.sentence("characters in the query (6)");
        TripleStore store = new TripleStore();
        Check.due("none", store.count(6), 0);
        Check.write(store, " ".repeat(160));
        Check.due("160", store.count(6), 160);
        Check.answer(() -> store.append(' ', 1));
        Check.due("160 still", store.count(6), 160);
        Check.answer(store::ask);
        Check.due("none again", store.count(6), 0);
    }

    private static void countOther() {
        Check.sentence("IllegalArgumentException: another number.");
        TripleStore store = new TripleStore();
        for (int what : FAR) {
            Check.due("count " + what, Check.answer(() -> store.count(what)), WRONG);
        }
        Check.due("count 7", Check.answer(() -> store.count(7)), WRONG);
        for (int what = 0; what <= 6; what++) {
            int number = what;
            Check.due("count " + what, Check.answer(() -> store.count(number)), "0");
        }
    }
}
