/** Promises 10, 12 and 13: the order of rows, their cells, and the counts. */
public final class RowsTest {
    public static void main(String[] args) {
        order();
        orderByWhatIsNotThere();
        distinct();
        limit();
        sixColumns();
        cells();
        counts();
        Check.end();
    }

    private static void order() {
        TripleStore store = Check.storeOf("k v b", "k v abc", "k v 10", "k v ab", "k v 9", "k v a", "k v 100",
            "k v zzzzzzzz", "k v bbbbbbbb", "k v 0", "k v 9999");
        String rising = "0, 9, 10, 100, 9999, a, ab, abc, b, bbbbbbbb, zzzzzzzz";
        String falling = "zzzzzzzz, bbbbbbbb, b, abc, ab, a, 9999, 100, 10, 9, 0";
        Check.dueRows(store, "select ?x{?k v ?x}", rising);
        Check.dueRows(store, "select ?x{?k v ?x}order ?x", rising);
        Check.dueRows(store, "select ?x{?k v ?x}order ?x desc", falling);
        Check.dueRows(store, "select ?x{?k v ?x}order ?k desc", rising);
        TripleStore pairs = Check.storeOf("a p 2", "b p 1", "a p 1", "c p 3", "b p 2");
        Check.dueRows(pairs, "select ?x ?y{?x p ?y}", "a 1, a 2, b 1, b 2, c 3");
        Check.dueRows(pairs, "select ?y ?x{?x p ?y}", "1 a, 1 b, 2 a, 2 b, 3 c");
        Check.dueRows(pairs, "select ?x ?y{?x p ?y}order ?y", "a 1, b 1, a 2, b 2, c 3");
        Check.dueRows(pairs, "select ?x ?y{?x p ?y}order ?y desc", "c 3, a 2, b 2, a 1, b 1");
        Check.dueRows(pairs, "select ?x{?x p ?y}order ?y", "a, b, a, b, c");
        Check.dueRows(pairs, "select ?x{?x p ?y}order ?y desc", "c, a, b, a, b");
    }

    private static void orderByWhatIsNotThere() {
        TripleStore store = Check.storeOf("a p 0", "b p 1", "c p 2", "b q 5", "c q x");
        String query = "select ?x ?y{?x p ?n.optional{?x q ?y}}";
        Check.dueRows(store, query + "order ?y", "a -, b 5, c x");
        Check.dueRows(store, query + "order ?y desc", "c x, b 5, a -");
        Check.dueRows(store, query + "order ?z", "a -, b 5, c x");
        Check.dueRows(store, query + "order ?z desc", "a -, b 5, c x");
        Check.dueRows(store, "select ?y ?x{?x p ?n.optional{?x q ?y}}", "- a, 5 b, x c");
    }

    private static void distinct() {
        TripleStore store = Check.storeOf("a p 3", "a p 1", "b p 2", "c p 0", "c p 9", "a q 3");
        Check.dueRows(store, "select ?x{?x p ?y}", "a, a, b, c, c");
        Check.dueRows(store, "select distinct ?x{?x p ?y}", "a, b, c");
        Check.dueRows(store, "select distinct ?x{?x p ?y}order ?y", "c, a, b");
        Check.dueRows(store, "select distinct ?x{?x p ?y}order ?y desc", "c, a, b");
        Check.dueRows(store, "select distinct ?x{?x p ?y.filter ?y < 9}order ?y desc", "a, b, c");
        Check.dueRows(store, "select distinct ?x ?y{?x ?p ?y}", "a 1, a 3, b 2, c 0, c 9");
        Check.dueRows(store, "select distinct ?z{?x p ?y}", "-");
        Check.dueRows(store, "select distinct ?x ?z{{?x p ?y}union{?x p ?y.c p ?z}}",
            "a -, a 0, a 9, b -, b 0, b 9, c -, c 0, c 9");
    }

    private static void limit() {
        TripleStore store = Check.storeOf("a p 3", "a p 1", "b p 2", "c p 0", "c p 9");
        Check.dueRows(store, "select ?x{?x p ?y}limit 0", "");
        Check.due("columns with limit 0", store.count(1), 1);
        Check.dueRows(store, "select ?x{?x p ?y}limit 1", "a");
        Check.dueRows(store, "select ?x{?x p ?y}limit 0004", "a, a, b, c");
        Check.dueRows(store, "select ?x{?x p ?y}limit 5", "a, a, b, c, c");
        Check.dueRows(store, "select ?x{?x p ?y}limit 9999", "a, a, b, c, c");
        Check.dueRows(store, "select distinct ?x{?x p ?y}limit 2", "a, b");
        Check.dueRows(store, "select distinct ?x{?x p ?y}limit 4", "a, b, c");
        Check.dueRows(store, "select ?y{?x p ?y}order ?y desc limit 2", "9, 3");
        Check.dueRows(store, "select ?y{?x p ?y}", "0, 1, 2, 3, 9");
    }

    private static void sixColumns() {
        TripleStore store = Check.storeOf("a p 1", "a p 2");
        Check.dueRows(store, "select ?a ?b ?c ?a ?b ?d{{?a ?b ?c}union{?a ?b ?c.?a ?b ?d.filter ?c = ?d}}",
            "a p 1 a p -, a p 1 a p 1, a p 2 a p -, a p 2 a p 2");
        Check.dueRows(store, "select ?a ?b ?a ?b ?a ?b{?a ?b ?c}", "a p a p a p, a p a p a p");
        Check.dueRows(store, "select distinct ?a ?b ?a ?b ?a ?b{?a ?b ?c}", "a p a p a p");
        Check.dueRows(store, "select ?a ?b ?c ?d ?e ?f{?a ?b ?c.?d ?e ?f.filter ?c ! ?f}",
            "a p 1 a p 2, a p 2 a p 1");
    }

    private static void cells() {
        TripleStore store = Check.storeOf("ann p 7", "zzzzzzzz p abcdefgh");
        Check.dueRows(store, "select ?x ?y ?z{?x p ?y}", "ann 7 -, zzzzzzzz abcdefgh -");
        Check.due("a word", store.cell(0, 0), 0x616e6e);
        Check.due("a number", store.cell(0, 1), -8);
        Check.due("a word of eight", store.cell(1, 0), 0x7a7a7a7a7a7a7a7aL);
        Check.due("none given", Check.answer(() -> store.cell(0, 2)), "UnsupportedOperationException");
        int[][] places = {{-1, 0}, {0, -1}, {2, 0}, {0, 3}, {2, 2}, {1, 3}, {Integer.MAX_VALUE, 0},
            {0, Integer.MAX_VALUE}, {Integer.MIN_VALUE, Integer.MIN_VALUE}};
        for (int[] place : places) {
            Check.due("place " + place[0] + " " + place[1],
                Check.answer(() -> store.cell(place[0], place[1])), "NoSuchElementException");
        }
        Check.add(store, "bob p 1");
        Check.due("a change does not reach them", Check.rows(store), "ann 7 -, zzzzzzzz abcdefgh -");
        Check.dueRows(store, "select", "fault 6");
        Check.due("a fault does not reach them", store.cell(0, 1), -8);
        Check.dueRows(store, "select ?x{?x ?a b}", "");
        Check.due("a new query does", Check.cell(store, 0, 0), "none");
    }

    private static void counts() {
        TripleStore store = Check.storeOf("a p 1", "a p 2");
        Check.dueRows(store, "select ?x ?y ?x{?x p ?y}", "a 1 a, a 2 a");
        store.sync();
        Check.add(store, "a p 3");
        store.begin();
        Check.add(store, "a p 4");
        Check.remove(store, "a p 4");
        Check.write(store, "hello");
        int[] due = {3, 3, 2, 3, 1, 2, 5};
        for (int what = 0; what < due.length; what++) {
            Check.due("count " + what, store.count(what), due[what]);
        }
        for (int what : new int[] {-1, 7, 8, Integer.MIN_VALUE, Integer.MAX_VALUE}) {
            Check.due("count " + what, Check.answer(() -> store.count(what)), "IllegalArgumentException");
        }
    }
}
