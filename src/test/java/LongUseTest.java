import java.util.Random;
import java.util.Set;

/** Calls behind the 512th may answer anything, but they end and throw only what the face tells. */
public final class LongUseTest {
    private static final Set<String> TOLD = Set.of("IllegalArgumentException", "IllegalStateException",
        "NoSuchElementException", "UnsupportedOperationException");
    private static final String[] QUERIES = {"select ?x ?y{?x p ?y}", "select distinct ?x{?x ?p ?y}order ?y desc",
        "select ?a{?a ?b ?c.?d ?e ?f}", "select ?x{{}union{?x p 1}.optional{?x p 2}.minus{?x p 3}}"};

    private final Random random = new Random(512);
    private final TripleStore store = new TripleStore();

    public static void main(String[] args) {
        LongUseTest test = new LongUseTest();
        for (int i = 0; i < 20000; i++) {
            test.call(i);
        }
        changesAlone();
        mostTransactions();
        Check.end();
    }

    private static void told(Check.Call call) {
        String answer = Check.answer(call);
        Check.due(answer, TOLD.contains(answer) || answer.matches("-?[0-9]+"), true);
    }

    private void call(int number) {
        long s = 'a' + random.nextInt(9);
        long o = -1 - random.nextInt(9);
        switch (random.nextInt(number < 2000 ? 8 : 9)) {
            case 0:
                told(store::begin);
                break;
            case 1:
                told(store::commit);
                break;
            case 2:
                told(() -> store.crash(random.nextInt(3)));
                break;
            case 3:
                told(store::rollback);
                break;
            case 4:
                told(() -> store.remove(s, 'p', o));
                break;
            case 5:
                Check.write(store, store.count(6) == 0 ? QUERIES[random.nextInt(QUERIES.length)] : "");
                told(store::ask);
                told(() -> store.cell(random.nextInt(5), random.nextInt(2)));
                break;
            case 8:
                told(store::sync);
                break;
            default:
                told(() -> store.add(s, 'p', o));
                break;
        }
    }

    /** The 512 calls that are promised, all of them changes, and one crash too many. */
    private static void changesAlone() {
        TripleStore store = new TripleStore();
        for (int i = 0; i < 511; i++) {
            if (i % 2 == 0) {
                Check.due("add " + i, store.add('a', 'b', -1 - i), 1);
            } else {
                Check.due("remove " + i, store.remove('a', 'b', -i), 1);
            }
        }
        Check.due("the 512th call", store.crash(509), 1);
        for (int i = 0; i < 2000; i++) {
            int n = i;
            told(() -> store.add('a', 'c', -1 - n));
            told(() -> store.remove('a', 'c', -1 - n));
        }
        Check.due("still within the store's limit", store.count(0) <= 48, true);
    }

    private static void mostTransactions() {
        TripleStore store = new TripleStore();
        for (int i = 0; i < 510; i += 2) {
            Check.due("begin " + i, store.begin(), i / 2);
            Check.due("commit " + i, store.commit(), 0);
        }
        Check.due("committed", store.count(3), 255);
        Check.due("sync", store.sync(), 255);
    }
}
