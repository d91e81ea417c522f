/** Promise 10: what a query finds. */
public final class QueryTest {
    private static final String[] PEOPLE = {"ann knows bob", "ann knows cyd", "bob knows cyd",
        "bob age 7", "cyd age 30", "ann age 7", "cyd likes cyd", "ab likes abc", "b likes a"};

    public static void main(String[] args) {
        patterns();
        groupsAndUnions();
        optionals();
        minus();
        filters();
        comparisons();
        tooMany();
        asksSeeTheStore();
        Check.end();
    }

    private static void patterns() {
        TripleStore store = Check.storeOf(PEOPLE);
        Check.dueRows(store, "select ?x{?x knows cyd}", "ann, bob");
        Check.dueRows(store, "select ?x{ann knows ?x}", "bob, cyd");
        Check.dueRows(store, "select ?x{ann ?x cyd}", "knows");
        Check.dueRows(store, "select ?x{?x age 7}", "ann, bob");
        Check.dueRows(store, "select ?x{?x age 0007}", "ann, bob");
        Check.dueRows(store, "select ?x{?x age 8}", "");
        Check.dueRows(store, "select ?x{7 age ?x}", "");
        Check.dueRows(store, "select ?x{?x likes ?x}", "cyd");
        Check.dueRows(store, "select ?x{ann knows bob}", "-");
        Check.dueRows(store, "select ?x{ann knows ann}", "");
        Check.dueRows(store, "select ?x{}", "-");
        Check.dueRows(store, "select ?x ?z{?x knows ?y.?y knows ?z}", "ann cyd");
        Check.dueRows(store, "select ?x ?y{?x age ?a.?y age ?a.filter ?x ! ?y}", "ann bob, bob ann");
        Check.dueRows(store, "select ?p{?x ?p ?y.?y ?p ?x}", "likes");
        Check.dueRows(store, "select ?x ?x{?x likes a}", "b b");
        Check.dueRows(store, "select ?x{?x likes a.ann knows ann}", "");
        Check.dueRows(Check.storeOf("p p p", "p p q", "q p p"), "select ?x{?x ?x ?x}", "p");
    }

    private static void groupsAndUnions() {
        TripleStore store = Check.storeOf(PEOPLE);
        Check.dueRows(store, "select ?x{{?x knows bob}}", "ann");
        Check.dueRows(store, "select ?x ?a{?x knows cyd.{?x age ?a}}", "ann 7, bob 7");
        Check.dueRows(store, "select ?x{{?x knows cyd}union{?x age 7}}", "ann, ann, bob, bob");
        Check.dueRows(store, "select ?x ?y{{?x age 30}union{?y age 30}}", "- cyd, cyd -");
        Check.dueRows(store, "select ?x{ann knows ?x.{?x age 7}union{?x age 30}}", "bob, cyd");
        Check.dueRows(store, "select ?x{{?x age 30}union{}union{ann age 1}}", "-, cyd");
        Check.dueRows(store, "select ?x ?y{{?x age 30}union{}.{?y age 30}union{}}", "- -, - cyd, cyd -, cyd cyd");
        Check.dueRows(store, "select ?x ?y{{?x age 30}union{}.?x likes ?y}", "ab abc, b a, cyd cyd, cyd cyd");
        Check.dueRows(store, "select ?x{{{{?x age 30}}}}", "cyd");
    }

    private static void optionals() {
        TripleStore store = Check.storeOf(PEOPLE);
        Check.dueRows(store, "select ?x ?y{?x age ?a.optional{?x knows ?y}}", "ann bob, ann cyd, bob cyd, cyd -");
        Check.dueRows(store, "select ?x{optional{?x age 8}}", "-");
        Check.dueRows(store, "select ?x{optional{?x age 7}}", "ann, bob");
        Check.dueRows(store, "select ?x ?y{?x age 30.optional{?y age 7}}", "cyd ann, cyd bob");
        Check.dueRows(store, "select ?x ?a{?x knows cyd.optional{?x age ?a.filter ?x = bob}}", "ann -, bob 7");
        Check.dueRows(store, "select ?x ?a{?x knows cyd.optional{ann age ?a.filter bound ?x}}", "ann -, bob -");
        Check.dueRows(store, "select ?y ?x{optional{?y age 8}.?x age 30.optional{?y age 30}}", "cyd cyd");
        Check.dueRows(store, "select ?x ?y{ann age ?a.optional{?x likes ?y}.optional{?y age 30.?x age 30}}",
            "ab abc, b a, cyd cyd");
    }

    private static void minus() {
        TripleStore store = Check.storeOf(PEOPLE);
        Check.dueRows(store, "select ?x{?x age ?a.minus{?x knows ?q}}", "cyd");
        Check.dueRows(store, "select ?x{?x age ?a.minus{?q knows bob}}", "ann, bob, cyd");
        Check.dueRows(store, "select ?x{?x age ?a.minus{}}", "ann, bob, cyd");
        Check.dueRows(store, "select ?x{?x age ?a.minus{ann age 7}}", "ann, bob, cyd");
        Check.dueRows(store, "select ?x{minus{?x age ?a}}", "-");
        Check.dueRows(store, "select ?x{minus{?x age ?a}.?x age 7}", "ann, bob");
        Check.dueRows(store, "select ?x{?x age ?a.minus{?x age ?b.?b ?c ?d}}", "ann, bob, cyd");
        Check.dueRows(store, "select ?x{?x age ?a.minus{?y age ?a.filter ?a > 7}}", "ann, bob");
        Check.dueRows(store, "select ?x{?x age ?a.minus{?x knows cyd.optional{?x age ?a}}}", "cyd");
        Check.dueRows(store, "select ?x{?x age ?a.minus{{?x age 7}union{?q age 1}}}", "cyd");
        Check.dueRows(store, "select ?x ?y{?x age ?a.optional{?x knows ?y}.minus{?y age 30}}", "ann bob, cyd -");
    }

    private static void filters() {
        TripleStore store = Check.storeOf(PEOPLE);
        Check.dueRows(store, "select ?x{filter ?a > 7.?x age ?a}", "cyd");
        Check.dueRows(store, "select ?x{?x age ?a.filter ?a = 7.filter not ?x = ann}", "bob");
        Check.dueRows(store, "select ?x{?x age ?a.{filter ?a = 7}}", "");
        Check.dueRows(store, "select ?x{?x age ?a.{filter not ?a = 7}}", "ann, bob, cyd");
        Check.dueRows(store, "select ?x{?x age ?a.{?x age ?a.filter ?a = 7}}", "ann, bob");
        Check.dueRows(store, "select ?x{?x age ?a.optional{?x knows ?y}.filter bound ?y}", "ann, ann, bob");
        Check.dueRows(store, "select ?x{?x age ?a.optional{?x knows ?y}.filter not bound ?y}", "cyd");
        Check.dueRows(store, "select ?x{?x age ?a.optional{?x knows ?y}.filter ?y ! bob}", "ann, bob");
        Check.dueRows(store, "select ?x{?x age ?a.optional{?x knows ?y}.filter not ?y = bob}", "ann, bob, cyd");
        Check.dueRows(store, "select ?x{?x age 30.filter not not bound ?x}", "cyd");
        Check.dueRows(store, "select ?x{?x age 30.filter not not not bound ?x}", "");
        Check.dueRows(store, "select ?x{?x age 30.filter not not not not bound ?x}", "cyd");
        Check.dueRows(store, "select ?x{?x age 30.filter a = b}", "");
    }

    private static void comparisons() {
        TripleStore store = new TripleStore();
        String[] rising = {"0", "1", "9", "10", "99", "100", "9999", "a", "aa", "ab", "abc", "abcdefgh", "b",
            "ba", "z", "zzzzzzzz"};
        for (int i = 0; i < rising.length; i++) {
            for (int j = 0; j < rising.length; j++) {
                holds(store, rising[i] + " < " + rising[j], i < j);
                holds(store, rising[i] + " > " + rising[j], i > j);
                if (i < 4 || i == j) {
                    holds(store, rising[i] + " = " + rising[j], i == j);
                    holds(store, rising[i] + " ! " + rising[j], i != j);
                }
            }
            store = new TripleStore();
        }
        for (String sign : new String[] {"=", "!", "<", ">"}) {
            holds(store, "?x " + sign + " a", false);
            holds(store, "a " + sign + " ?x", false);
            holds(store, "?x " + sign + " ?x", false);
            holds(store, "?x " + sign + " ?y", false);
            holds(store, "not ?x " + sign + " ?y", true);
        }
        holds(store, "007 = 7", true);
        holds(store, "bound ?x", false);
        holds(store, "not bound ?x", true);
    }

    private static void holds(TripleStore store, String test, boolean due) {
        Check.write(store, "select ?x{filter " + test + "}");
        Check.due(test, store.ask(), due ? 1 : 0);
    }

    private static void tooMany() {
        TripleStore store = new TripleStore();
        for (int n = 0; n < 15; n++) {
            Check.add(store, "a p " + n);
        }
        for (int n = 0; n < 10; n++) {
            Check.add(store, "a q " + n);
        }
        rowsDue(store, "select ?x ?y{a p ?x.a q ?y}", "150");
        rowsDue(store, "select ?x ?y{a p ?x.a q ?y.a p 1.a p ?x}", "150");
        rowsDue(store, "select ?x ?y{a p ?x.a q ?y.{}union{a p 99}}", "150");
        rowsDue(store, "select ?x ?y{a p ?x.a q ?y.{}union{a p 1}}", "IllegalStateException");
        rowsDue(store, "select ?x ?y{a p ?x.optional{a q ?y}}", "150");
        Check.add(store, "b r 1");
        rowsDue(store, "select ?x{{a p ?x.a q ?y}union{a r ?x}}", "150");
        rowsDue(store, "select ?x{{a p ?x.a q ?y}union{b r ?x}}", "IllegalStateException");
        rowsDue(store, "select ?x{{a p ?x.a q ?y}union{b r ?x}.filter ?x > 99}", "IllegalStateException");
        rowsDue(store, "select ?x ?y{{a p ?x}union{?z r 1}.a q ?y}", "IllegalStateException");
        rowsDue(store, "select ?x ?y{{a p ?x}union{?z r 1}.a q ?y}limit 1", "IllegalStateException");
        rowsDue(store, "select distinct ?w{{a p ?x}union{?z r 1}.a q ?y}", "IllegalStateException");
        rowsDue(store, "select ?x ?y{{a p ?x}union{?z r 1}.a q ?y.filter ?x = 1}", "IllegalStateException");
        rowsDue(store, "select ?x ?y{{a p ?x}union{?z r 1}.optional{a q ?y}}", "IllegalStateException");
        rowsDue(store, "select ?x{a p 99.{?a p ?x.?b p ?y}}", "IllegalStateException");
        rowsDue(store, "select ?x{minus{?a p ?x.?b p ?y}}", "IllegalStateException");
        rowsDue(store, "select ?x{optional{?a p ?x.?b p ?y}}", "IllegalStateException");
        rowsDue(store, "select ?x{{{?a p ?x.?b p ?y}}}", "IllegalStateException");
        rowsDue(store, "select ?x{?a p ?x.?b p ?y.a p 99}", "IllegalStateException");
        rowsDue(store, "select ?x{a p 99.?a p ?x.?b p ?y}", "0");
        rowsDue(store, "select ?x{a p ?x.optional{a q ?x}.optional{a q ?y.b r ?x}}", "24");
        eachUnionPartByItself(store);
    }

    /** The list that may not be too long is the one that is found, not all that the parts have. */
    private static void eachUnionPartByItself(TripleStore store) {
        rowsDue(store, "select ?x{b r ?x.{a p ?x.a q ?y}union{a q ?x.?b r ?y}}", "11");
    }

    private static void rowsDue(TripleStore store, String query, String due) {
        Check.write(store, query);
        Check.due(query, Check.answer(store::ask), due);
        Check.due("fault of " + query, store.fault(), -1);
        Check.due("text behind " + query, store.count(6), 0);
        Check.due("rows of " + query, store.count(2), due.startsWith("I") ? 0 : Long.parseLong(due));
    }

    private static void asksSeeTheStore() {
        TripleStore store = Check.storeOf("a b c");
        String query = "select ?x{a b ?x}";
        store.begin();
        Check.add(store, "a b d");
        Check.remove(store, "a b c");
        Check.dueRows(store, query, "d");
        store.rollback();
        Check.due("the rows are those of the ask", Check.rows(store), "d");
        Check.dueRows(store, query, "c");
        store.crash(0);
        Check.dueRows(store, query, "");
    }
}
