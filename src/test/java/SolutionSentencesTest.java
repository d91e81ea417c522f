/** Solutions, filters, rows and the 150: one test for each sentence that names an edge. */
public final class SolutionSentencesTest {
    private static final String FAILS = "IllegalStateException";
    private static final String[] SIGNS = {"=", "!", "<", ">"};

    public static void main(String[] args) {
        Check.sentence("Two are COMPATIBLE if no variable has different terms in them",
            SolutionSentencesTest::compatible);
        Check.sentence("JOINED they give what either one gives", SolutionSentencesTest::joined);
        Check.sentence("beginning with the one that gives nothing", SolutionSentencesTest::beginning);
        Check.sentence("those that the pattern has: one for each triple that fits it",
            SolutionSentencesTest::patternOfNone);
        Check.sentence("every solution is joined with every one that it is compatible with",
            SolutionSentencesTest::patternOfMany);
        Check.sentence("(a variable that stands twice having one term)", SolutionSentencesTest::variableTwice);
        Check.sentence("A GROUP, or several with union: likewise with all that these have",
            SolutionSentencesTest::groupsJoined);
        Check.sentence("of each one by itself", SolutionSentencesTest::groupsByThemselves);
        Check.sentence("optional: a solution that is compatible with none of those that the GROUP has stays",
            SolutionSentencesTest::optionalWithNone);
        Check.sentence("the others are joined", SolutionSentencesTest::optionalWithSome);
        Check.sentence("minus: a solution goes if it is compatible with one that the GROUP has",
            SolutionSentencesTest::minusCompatible);
        Check.sentence("and there is a variable that both give", SolutionSentencesTest::minusSharing);
        Check.sentence("Filters: at the end of the GROUP", SolutionSentencesTest::filtersAtTheEnd);
        Check.sentence("the GROUP in which they stand", SolutionSentencesTest::filtersOfTheirGroup);
        Check.sentence("only the solutions are left for which all of its tests hold", SolutionSentencesTest::allTests);
        Check.sentence("bound: it gives the variable", SolutionSentencesTest::bound);
        Check.sentence("= both sides are there and the same", SolutionSentencesTest::same);
        Check.sentence("! they are there and not the same", SolutionSentencesTest::notTheSame);
        Check.sentence("< and > the left one is less, or the right one is", SolutionSentencesTest::less);
        Check.sentence("not: the test does not hold.", SolutionSentencesTest::not);
        Check.sentence("(A side is there if it is a term or a variable that is given one.)",
            SolutionSentencesTest::sideThatIsThere);
        Check.sentence("ROWS: of every solution of the first GROUP the terms of the selected variables, in order",
            SolutionSentencesTest::rowsOfSelected);
        Check.sentence("with distinct each row once", SolutionSentencesTest::distinctRows);
        Check.sentence("They stand by the term of the order's variable in the solution (falling with desc",
            SolutionSentencesTest::ordered);
        Check.sentence("a variable without one is less than all)", SolutionSentencesTest::orderedWithoutTerm);
        Check.sentence("then by their own terms, from the first on, rising (likewise).",
            SolutionSentencesTest::thenByOwnTerms);
        Check.sentence("With distinct and an order a row stands by that of its solutions by which it stands first.",
            SolutionSentencesTest::distinctAndOrdered);
        Check.sentence("limit: only the first so many.", SolutionSentencesTest::limit);
        Check.sentence("No list may have more than 150 solutions while it is found",
            SolutionSentencesTest::tooManyJoins);
        Check.sentence("No list may have more than 150 solutions", SolutionSentencesTest::tooManyInEveryKind);
        Check.sentence("No list may have more than 150 solutions while it is found",
            SolutionSentencesTest::tooManyWithin);
        Check.sentence("(joins are counted as they are made)", SolutionSentencesTest::countedAsMade);
        Check.sentence("A GROUP, or several with union: likewise with all that these have, of each one by itself.",
            SolutionSentencesTest::unionAndTooMany);
        Check.sentence("the query fails otherwise", SolutionSentencesTest::failing);
        Check.end();
    }

    private static void compatible() {
        TripleStore store = Check.storeOf("a p 1", "b p 2", "a q 1", "b q 3", "c q 2");
        Check.dueRows(store, "select ?x ?y{?x p ?y.?x q ?y}", "a 1");
        Check.dueRows(store, "select ?x ?y{?x p ?y.{?x q ?y}}", "a 1");
        Check.dueRows(store, "select ?x ?z{?x p ?y.?z q ?y}", "a a, b c");
        Check.dueRows(store, "select ?x ?z{?x p 1.?z q 3}", "a b");
        Check.dueRows(store, "select ?x ?z{?x p 1.{?z q 3}}", "a b");
        Check.dueRows(store, "select ?x ?y{?x p ?y.{}}", "a 1, b 2");
        Check.dueRows(store, "select ?x ?y{{}union{?x p 2}.?x q ?y}", "a 1, b 3, b 3, c 2");
    }

    private static void joined() {
        TripleStore store = Check.storeOf("a p 1", "b q 2");
        Check.dueRows(store, "select ?w ?x ?y ?z{?w p ?x.?y q ?z}", "a 1 b 2");
        Check.dueRows(store, "select ?w ?x ?y ?z{{?w p ?x}.{?y q ?z}}", "a 1 b 2");
        Check.dueRows(store, "select ?w ?x ?y ?z{?w p ?x.optional{?y q ?z}}", "a 1 b 2");
        Check.dueRows(store, "select ?w ?x ?v{?w p ?x.{}}", "a 1 -");
    }

    private static void beginning() {
        TripleStore store = new TripleStore();
        Check.dueRows(store, "select ?x{}", "-");
        Check.dueRows(store, "select ?x ?y{{{{}}}}", "- -");
        Check.dueRows(store, "select ?x{{}union{}union{}}", "-, -, -");
        Check.dueRows(store, "select ?x{filter a=a}", "-");
        Check.dueRows(store, "select ?x{minus{}}", "-");
        Check.dueRows(store, "select ?x{optional{?x p ?y}}", "-");
        Check.dueRows(store, "select ?x{filter a=b}", "");
        Check.add(store, "a p 1");
        Check.dueRows(store, "select ?x ?y{?x p ?y.{}}", "a 1");
        Check.dueRows(store, "select ?x ?y{}", "- -");
        Check.dueRows(store, "select ?x ?y{?x p ?y.{}.{}}", "a 1");
        Check.dueRows(store, "select ?x ?y{{?x p ?y}union{}}", "- -, a 1");
    }

    private static void patternOfNone() {
        Check.dueRows(new TripleStore(), "select ?x{?x ?y ?z}", "");
        TripleStore store = Check.storeOf("a p 1");
        Check.dueRows(store, "select ?x{a p 1}", "-");
        Check.dueRows(store, "select ?x{a p 0001}", "-");
        Check.dueRows(store, "select ?x{b p 1}", "");
        Check.dueRows(store, "select ?x{a q 1}", "");
        Check.dueRows(store, "select ?x{a p 2}", "");
        Check.dueRows(store, "select ?x{1 p a}", "");
        Check.dueRows(store, "select ?x{?x p 1.a p ?x}", "");
        store.remove('a', 'p', -2);
        Check.dueRows(store, "select ?x{?x ?y ?z}", "");
    }

    private static void patternOfMany() {
        TripleStore store = new TripleStore();
        for (int n = 0; n < 48; n++) {
            store.add('a', 'p', -1 - n);
        }
        Check.due("48", Check.asked(store, "select ?x{a p ?x}"), "48");
        Check.due("48 with 1", Check.asked(store, "select ?x{a p ?x.a p 47}"), "48");
        Check.due("1 with 48", Check.asked(store, "select ?x{a p 0.a p ?x}"), "48");
        Check.due("48 with themselves", Check.asked(store, "select ?x{a p ?x.?a ?p ?x.?a ?p ?x}"), "48");
        Check.due("3 with 48", Check.asked(store, "select ?x{{}union{}union{}.a p ?x}"), "144");
    }

    private static void variableTwice() {
        TripleStore store = Check.storeOf("a a a", "a a b", "a b a", "b a a", "a b c", "c a 1");
        Check.dueRows(store, "select ?x ?y{?x ?x ?y}", "a a, a b");
        Check.dueRows(store, "select ?x ?y{?x ?y ?x}", "a a, a b");
        Check.dueRows(store, "select ?x ?y{?y ?x ?x}", "a a, a b");
        Check.dueRows(store, "select ?x{?x ?x ?x}", "a");
        Check.dueRows(store, "select ?x{?x ?x 1}", "");
    }

    private static void groupsJoined() {
        TripleStore store = Check.storeOf("a p 1", "b p 2", "a q 3", "c q 4");
        Check.dueRows(store, "select ?x{{?x p ?y}}", "a, b");
        Check.dueRows(store, "select ?x{{?x p ?y}union{?x q ?y}}", "a, a, b, c");
        Check.dueRows(store, "select ?x{{?x p ?y}union{?x p ?y}}", "a, a, b, b");
        Check.dueRows(store, "select ?x ?y{?x p ?z.{?x q ?y}union{?x p ?y}}", "a 1, a 3, b 2");
        Check.dueRows(store, "select ?x{?x p ?z.{?x q 4}union{?x q 9}}", "");
        Check.dueRows(store, "select ?x{{a p 9}union{a q 9}.?x p ?y}", "");
        String twelve = "{?x p 1}union".repeat(11).replace("?x p 1", "") + "{?x p 1}";
        Check.dueRows(store, "select ?x{" + twelve + "}", "-, -, -, -, -, -, -, -, -, -, -, a");
    }

    private static void groupsByThemselves() {
        TripleStore store = Check.storeOf("a p 1", "b p 2", "a q 3", "c q 4");
        Check.dueRows(store, "select ?x{?x p ?y.{filter bound ?x}}", "");
        Check.dueRows(store, "select ?x{?x p ?y.{filter not bound ?x}}", "a, b");
        Check.dueRows(store, "select ?x{{?x p 1}union{filter bound ?x}}", "a");
        Check.dueRows(store, "select ?x{{?x p 1}union{?x q 4.filter ?x = a}}", "a");
        Check.dueRows(store, "select ?x{?x p ?y.{optional{?x q 4}}}", "");
        Check.dueRows(store, "select ?x{?x p ?y.{minus{?x p 1}}}", "a, b");
    }

    private static void optionalWithNone() {
        TripleStore store = Check.storeOf("a p 1", "b p 2", "a q 3");
        Check.dueRows(store, "select ?x ?z{?x p ?y.optional{?x q ?z}}", "a 3, b -");
        Check.dueRows(store, "select ?x ?z{?x p ?y.optional{?x r ?z}}", "a -, b -");
        Check.dueRows(store, "select ?x{?x p ?y.optional{c q 3}}", "a, b");
        Check.dueRows(store, "select ?x{?x p 9.optional{?x q ?z}}", "");
        Check.dueRows(store, "select ?x ?y{?x p ?y.optional{?x q ?y}}", "a 1, b 2");
        Check.dueRows(store, "select ?x{optional{?x p 9}}", "-");
    }

    private static void optionalWithSome() {
        TripleStore store = Check.storeOf("a p 1", "b p 2", "a q 3", "a q 4");
        Check.dueRows(store, "select ?x ?z{?x p ?y.optional{?x q ?z}}", "a 3, a 4, b -");
        Check.dueRows(store, "select ?x ?z{?x p ?y.optional{a q ?z}}", "a 3, a 4, b 3, b 4");
        Check.dueRows(store, "select ?x{?x p ?y.optional{}}", "a, b");
        Check.dueRows(store, "select ?x{?x p ?y.optional{{}union{}}}", "a, a, b, b");
        Check.dueRows(store, "select ?x{optional{?x p ?y}}", "a, b");
    }

    private static void minusCompatible() {
        TripleStore store = Check.storeOf("a p 1", "b p 2", "c p 2", "a q 1", "b q 9");
        Check.dueRows(store, "select ?x{?x p ?y.minus{?x q ?z}}", "c");
        Check.dueRows(store, "select ?x{?x p ?y.minus{?x q ?y}}", "b, c");
        Check.dueRows(store, "select ?x{?x p ?y.minus{?x p ?y}}", "");
        Check.dueRows(store, "select ?x{?x p ?y.minus{?x q 7}}", "a, b, c");
        Check.dueRows(store, "select ?x{?x p ?y.minus{{?x q 7}union{?x q 9}}}", "a, c");
        Check.dueRows(store, "select ?x{?x p 9.minus{?x p ?y}}", "");
    }

    private static void minusSharing() {
        TripleStore store = Check.storeOf("a p 1", "b p 2", "a q 1");
        Check.dueRows(store, "select ?x{?x p ?y.minus{}}", "a, b");
        Check.dueRows(store, "select ?x{?x p ?y.minus{a q 1}}", "a, b");
        Check.dueRows(store, "select ?x{?x p ?y.minus{?w q ?z}}", "a, b");
        Check.dueRows(store, "select ?x{?x p ?y.minus{?w q ?y}}", "b");
        Check.dueRows(store, "select ?x{minus{?x p ?y}}", "-");
        Check.dueRows(store, "select ?x{minus{?x p ?y}.?x p ?y}", "a, b");
        Check.dueRows(store, "select ?x{?x p ?y.optional{?x q ?z}.minus{?w q ?z}}", "b");
        Check.dueRows(store, "select ?x{?x p ?y.minus{{}union{?x q ?z}}}", "b");
        Check.dueRows(store, "select ?x{?x p ?y.minus{{?w q 1}union{?w q 9}}}", "a, b");
    }

    private static void filtersAtTheEnd() {
        TripleStore store = Check.storeOf("a p 1", "b p 2");
        Check.dueRows(store, "select ?x{filter ?y = 2.?x p ?y}", "b");
        Check.dueRows(store, "select ?x{filter not bound ?x.?x p ?y}", "");
        Check.dueRows(store, "select ?x{filter bound ?x.optional{?x p 2}}", "b");
        Check.dueRows(store, "select ?x{?x p ?y.optional{filter ?z = 2.?x p ?z}.filter not bound ?z}", "a");
        Check.dueRows(store, "select ?x{?x p ?y.minus{filter ?z = 2.?x p ?z}}", "a");
    }

    private static void filtersOfTheirGroup() {
        TripleStore store = Check.storeOf("a p 1", "b p 2");
        Check.dueRows(store, "select ?x{{?x p ?y}.{filter ?y = 2}}", "");
        Check.dueRows(store, "select ?x{{?x p ?y.filter ?y = 2}union{?x p ?y}}", "a, b, b");
        Check.dueRows(store, "select ?x{{?x p ?y}union{?x p ?y}.filter ?y = 2}", "b, b");
        Check.dueRows(store, "select ?x{?x p ?y.{{filter ?y ! 1}}}", "");
    }

    private static void allTests() {
        TripleStore store = Check.storeOf("a p 1", "a p 2", "a p 3", "a p 4");
        Check.dueRows(store, "select ?x{a p ?x.filter ?x > 1.filter ?x < 4}", "2, 3");
        Check.dueRows(store, "select ?x{filter ?x ! 3.a p ?x.filter ?x > 1.filter ?x < 4}", "2");
        Check.dueRows(store, "select ?x{a p ?x.filter ?x > 4.filter ?x < 4}", "");
        Check.dueRows(store, "select ?x{filter a=a.filter a=a.filter a=b.filter a=a}", "");
    }

    private static void holds(String test, boolean due) {
        String query = "select ?x{?x p ?n.optional{?x r ?u}.filter " + test + "}";
        Check.due(query, Check.asked(Check.storeOf("w p 5"), query), due ? "1" : "0");
    }

    private static void bound() {
        holds("bound ?x", true);
        holds("bound ?n", true);
        holds("bound ?u", false);
        holds("bound ?v", false);
    }

    private static void same() {
        holds("?n=5", true);
        holds("5=?n", true);
        holds("?x=w", true);
        holds("?n=?n", true);
        holds("0005=?n", true);
        holds("?n=6", false);
        holds("?x=?n", false);
        holds("?u=5", false);
        holds("5=?u", false);
        holds("?u=?u", false);
        holds("?u=?v", false);
    }

    private static void notTheSame() {
        holds("?n!6", true);
        holds("w!?n", true);
        holds("?x!?n", true);
        holds("?n!5", false);
        holds("?n!0005", false);
        holds("?x!?x", false);
        holds("?u!5", false);
        holds("5!?u", false);
        holds("?u!?u", false);
        holds("?u!?v", false);
    }

    private static void less() {
        String[] rising = {"0", "4", "9999", "a", "w"};
        for (int i = 0; i < rising.length; i++) {
            for (int j = 0; j < rising.length; j++) {
                holds(rising[i] + "<" + rising[j], i < j);
                holds(rising[i] + ">" + rising[j], i > j);
            }
        }
        holds("?n<6", true);
        holds("?n<5", false);
        holds("?n<4", false);
        holds("?n>6", false);
        holds("?n>5", false);
        holds("?n>4", true);
        holds("?n<?x", true);
        holds("?x<?n", false);
        holds("?x>?n", true);
        holds("?n>?x", false);
    }

    private static void not() {
        holds("not bound ?x", false);
        holds("not bound ?u", true);
        holds("not ?n=5", false);
        holds("not ?n=6", true);
        holds("not not ?n=5", true);
        holds("not not not ?n=5", false);
        holds("not not not not ?n=5", true);
        for (String sign : SIGNS) {
            holds("not ?u" + sign + "5", true);
            holds("not not ?u" + sign + "5", false);
        }
    }

    private static void sideThatIsThere() {
        for (String sign : SIGNS) {
            for (String term : new String[] {"0", "9999", "a", "zzzzzzzz", "?n", "?x"}) {
                holds("?u" + sign + term, false);
                holds(term + sign + "?u", false);
                holds("?v" + sign + term, false);
            }
            holds("?u" + sign + "?v", false);
        }
        holds("a=a", true);
        holds("0=0", true);
        holds("0!a", true);
    }

    private static void rowsOfSelected() {
        TripleStore store = Check.storeOf("a p 1", "b p 2");
        Check.dueRows(store, "select ?y ?x{?x p ?y}", "1 a, 2 b");
        Check.dueRows(store, "select ?x ?x ?w ?y ?x ?y{?x p ?y}", "a a - 1 a 1, b b - 2 b 2");
        Check.dueRows(store, "select ?p{?x ?p ?y}", "p, p");
        Check.dueRows(store, "select ?w{?x p ?y}", "-, -");
        Check.dueRows(store, "select ?x{?x p 3}", "");
    }

    private static void distinctRows() {
        TripleStore store = Check.storeOf("a p 1", "a p 2", "b p 1", "b q 1");
        Check.dueRows(store, "select ?x{?x ?p ?y}", "a, a, b, b");
        Check.dueRows(store, "select distinct ?x{?x ?p ?y}", "a, b");
        Check.dueRows(store, "select distinct ?x ?y{?x ?p ?y}", "a 1, a 2, b 1");
        Check.dueRows(store, "select distinct ?w{?x ?p ?y}", "-");
        Check.dueRows(store, "select distinct ?x{{}union{?x p 1}union{}}", "-, a, b");
        Check.dueRows(store, "select distinct ?x{?x p 9}", "");
    }

    private static void ordered() {
        TripleStore store = Check.storeOf("a p 2", "b p 10", "c p x", "d p 9");
        Check.dueRows(store, "select ?x{?x p ?y}order ?y", "a, d, b, c");
        Check.dueRows(store, "select ?x{?x p ?y}order ?y desc", "c, b, d, a");
        Check.dueRows(store, "select ?y ?x{?x p ?y}order ?x", "2 a, 10 b, x c, 9 d");
        Check.dueRows(store, "select ?y ?x{?x p ?y}order ?x desc", "9 d, x c, 10 b, 2 a");
    }

    private static void orderedWithoutTerm() {
        TripleStore store = Check.storeOf("z p 1", "b p 2", "c p 3", "b q 0", "c q zz");
        String query = "select ?x{?x p ?y.optional{?x q ?z}}order ?z";
        Check.dueRows(store, query, "z, b, c");
        Check.dueRows(store, query + " desc", "c, b, z");
        Check.dueRows(store, "select ?x{?x p ?y}order ?v", "b, c, z");
        Check.dueRows(store, "select ?x{?x p ?y}order ?v desc", "b, c, z");
    }

    private static void thenByOwnTerms() {
        TripleStore store = Check.storeOf("b p 2", "b p 1", "a p 2", "a p 1", "a q 0", "b q 0");
        Check.dueRows(store, "select ?x ?y{?x p ?y}", "a 1, a 2, b 1, b 2");
        Check.dueRows(store, "select ?y ?x{?x p ?y}", "1 a, 1 b, 2 a, 2 b");
        Check.dueRows(store, "select ?x ?y{?x p ?y}order ?y desc", "a 2, b 2, a 1, b 1");
        Check.dueRows(store, "select ?x ?y{?x p ?y.?x q ?z}order ?z desc", "a 1, a 2, b 1, b 2");
        Check.dueRows(store, "select ?w ?y ?x{{?x p ?y}union{?w q ?y}union{?x q ?y}}",
            "- 0 a, - 0 b, - 1 a, - 1 b, - 2 a, - 2 b, a 0 -, b 0 -");
    }

    private static void distinctAndOrdered() {
        TripleStore store = Check.storeOf("a p 2", "a p 9", "b p 1", "b p 8", "c p 3", "c p 4");
        Check.dueRows(store, "select distinct ?x{?x p ?y}order ?y", "b, a, c");
        Check.dueRows(store, "select distinct ?x{?x p ?y}order ?y desc", "a, b, c");
        Check.dueRows(store, "select distinct ?x{{?x p ?y}union{?x p 4}}order ?y", "c, b, a");
        Check.dueRows(store, "select distinct ?x{{?x p ?y}union{?x p 4}}order ?y desc", "a, b, c");
        Check.dueRows(store, "select distinct ?x{?x p ?y}order ?y limit 2", "b, a");
    }

    private static void limit() {
        TripleStore store = Check.storeOf("a p 3", "a p 1", "a p 2", "b p 1");
        String query = "select ?x ?y{?x p ?y}";
        Check.dueRows(store, query + "limit 0", "");
        Check.dueRows(store, query + "limit 0000", "");
        Check.dueRows(store, query + "limit 1", "a 1");
        Check.dueRows(store, query + "limit 3", "a 1, a 2, a 3");
        Check.dueRows(store, query + "limit 4", "a 1, a 2, a 3, b 1");
        Check.dueRows(store, query + "limit 5", "a 1, a 2, a 3, b 1");
        Check.dueRows(store, query + "limit 9999", "a 1, a 2, a 3, b 1");
        Check.dueRows(store, query + "order ?y desc limit 2", "a 3, a 2");
        Check.dueRows(store, "select distinct ?x{?x p ?y}limit 2", "a, b");
        Check.dueRows(store, "select distinct ?x{?x p ?y}limit 1", "a");
        Check.dueRows(store, query + "limit 0", "");
        Check.due("the columns are there", store.count(1), 2);
    }

    /** a has 15 p and 10 q, b has one p, and one q if it is asked for: 150 or 151 pairs of p and q. */
    private static TripleStore storeOfPairs(boolean tooMany) {
        TripleStore store = new TripleStore();
        for (int n = 0; n < 15; n++) {
            store.add('a', 'p', -1 - n);
        }
        for (int n = 0; n < 10; n++) {
            store.add('a', 'q', -1 - n);
        }
        store.add('b', 'p', -1);
        if (tooMany) {
            store.add('b', 'q', -1);
        }
        return store;
    }

    /** What is asked for 150 pairs, and for 151. */
    private static void duePairs(String query, String due, String dueForOneMore) {
        Check.due(query + " of 150", Check.asked(storeOfPairs(false), query), due);
        Check.due(query + " of 151", Check.asked(storeOfPairs(true), query), dueForOneMore);
    }

    private static void tooManyJoins() {
        duePairs("select ?x{?x p ?y.?x q ?z}", "150", FAILS);
        duePairs("select ?y ?z{?x q ?y.?x p ?z}", "150", FAILS);
        duePairs("select ?x{?y p ?a.?z q ?b.filter ?y = ?z}", FAILS, FAILS);
        TripleStore store = storeOfPairs(false);
        Check.remove(store, "a p 0");
        for (int n = 0; n < 10; n++) {
            Check.due("140 and " + n, Check.asked(store, "select ?x{?x p ?y.?x q ?z}"), String.valueOf(140 + n));
            Check.add(store, "b q " + n);
        }
        Check.due("140 and 10", Check.asked(store, "select ?x{?x p ?y.?x q ?z}"), "150");
        Check.add(store, "b q 10");
        Check.due("140 and 11", Check.asked(store, "select ?x{?x p ?y.?x q ?z}"), FAILS);
    }

    private static void tooManyInEveryKind() {
        duePairs("select ?x{?x p ?y.{?x q ?z}}", "150", FAILS);
        duePairs("select ?x{{?x p ?y}.{?x q ?z}}", "150", FAILS);
        duePairs("select ?x{?x p ?y.{?x q ?z}union{?x r ?z}}", "150", FAILS);
        duePairs("select ?x{{a p ?y.a q ?z}union{b q ?z}}", "150", FAILS);
        duePairs("select ?x{{b q ?z}union{a p ?y.a q ?z}}", "150", FAILS);
        duePairs("select ?x{a p ?y.optional{a q ?z}}", "150", "150");
        duePairs("select ?x{?x q ?y.optional{?x p ?z}}", "150", FAILS);
        duePairs("select ?x{?x p ?y.optional{?x q ?z}}", FAILS, FAILS);
        duePairs("select ?x{?x p ?y.?x q ?z.optional{?x r ?v}}", "150", FAILS);
        duePairs("select ?x{?x p ?y.?x q ?z.minus{?x r ?v}}", "150", FAILS);
    }

    private static void tooManyWithin() {
        duePairs("select ?x{{?x p ?y.?x q ?z}}", "150", FAILS);
        duePairs("select ?x{{{{?x p ?y.?x q ?z}}}}", "150", FAILS);
        duePairs("select ?x{optional{?x p ?y.?x q ?z}}", "150", FAILS);
        duePairs("select ?x{minus{?x p ?y.?x q ?z}}", "1", FAILS);
        duePairs("select ?x{{?x p ?y.?x q ?z.filter a=b}union{}}", "1", FAILS);
        duePairs("select ?x{b p ?w.{?x p ?y.?x q ?z.filter ?x = b}}", "0", FAILS);
        duePairs("select ?x{b p 9.{?x p ?y.?x q ?z}}", "0", FAILS);
        duePairs("select ?x{b p 9.optional{?x p ?y.?x q ?z}}", "0", FAILS);
        duePairs("select ?x{b p 9.minus{minus{?x p ?y.?x q ?z}}}", "0", FAILS);
    }

    private static void countedAsMade() {
        duePairs("select ?x{?x p ?y.?x q ?z.filter a=b}", "0", FAILS);
        duePairs("select ?x{?x p ?y.?x q ?z.?x p 99}", "0", FAILS);
        duePairs("select ?x{?x p ?y.?x q ?z.minus{?x p 0}}", "0", FAILS);
        duePairs("select ?x{?x p ?y.?x q ?z}limit 1", "1", FAILS);
        duePairs("select distinct ?v{?x p ?y.?x q ?z}", "1", FAILS);
        duePairs("select ?x{?x p 99.?x p ?y.?x q ?z}", "0", "0");
        duePairs("select ?x{?x p 0.?x p ?y.?x q ?z.minus{?x p 1}}", "0", FAILS);
        duePairs("select ?x{?x p ?y.?x p ?y.?x p ?y.?x ?v ?y.filter ?v = q}", "10", "11");
    }

    /** A union's GROUPS are lists each, and what they are joined to is one: together they are none. */
    private static void unionAndTooMany() {
        String pairs = "{a p ?x.a q ?y}";
        duePairs("select ?x{b p ?x." + pairs + "union" + pairs + "}", "20", "20");
        duePairs("select ?x{a p ?x." + pairs + "union{b q ?x}}", "150", FAILS);
        duePairs("select ?x{b p ?x.a p ?y." + pairs + "union" + pairs + "union" + pairs + "}", "30", "30");
        duePairs("select ?x{b p ?x." + pairs + "union{?b p ?v.?b q ?x}}", "25", FAILS);
    }

    private static void failing() {
        TripleStore store = storeOfPairs(true);
        Check.dueRows(store, "select ?x{b p ?x}", "0");
        Check.dueRows(store, "select ?x ?y ?z{?x p ?y.?x q ?z}", "too many");
        Check.due("no rows", store.count(2), 0);
        Check.due("its columns", store.count(1), 3);
        Check.due("no place", Check.cell(store, 0, 0), "none");
        Check.due("no fault", store.fault(), -1);
        Check.dueRows(store, "select ?x{b p ?x}", "0");
    }
}
