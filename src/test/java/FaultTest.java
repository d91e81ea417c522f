/** Promises 10 and 11: which texts have a fault, and where. */
public final class FaultTest {
    public static void main(String[] args) {
        lackingTokens();
        badTokens();
        tokensTogether();
        grammar();
        keys();
        limits();
        faultIsOfTheLastAsk();
        Check.end();
    }

    private static void lackingTokens() {
        Check.dueFault("", 0);
        Check.dueFault("   ", 0);
        Check.dueFault("select", 6);
        Check.dueFault("  select   ", 8);
        Check.dueFault("select distinct", 15);
        Check.dueFault("select ?x", 9);
        Check.dueFault("select ?x { ", 11);
        Check.dueFault("select ?x{a", 11);
        Check.dueFault("select ?x{a b", 13);
        Check.dueFault("select ?x{a b c ", 15);
        Check.dueFault("select ?x{a b c .  ", 17);
        Check.dueFault("select ?x{filter", 16);
        Check.dueFault("select ?x{filter not ", 20);
        Check.dueFault("select ?x{filter bound ", 22);
        Check.dueFault("select ?x{filter ?x ", 19);
        Check.dueFault("select ?x{filter ?x < ", 21);
        Check.dueFault("select ?x{optional ", 18);
        Check.dueFault("select ?x{minus ", 15);
        Check.dueFault("select ?x{{} ", 12);
        Check.dueFault("select ?x{{}union ", 17);
        Check.dueFault("select ?x{}order ", 16);
        Check.dueFault("select ?x{}limit ", 16);
        Check.dueFault("select ?x{}order ?x desc limit ", 30);
    }

    private static void badTokens() {
        Check.dueGood("select ?abcdefgh{abcdefgh zzzzzzzz 9999}");
        Check.dueFault("select ?abcdefghi{}", 7);
        Check.dueFault("select ? x{}", 7);
        Check.dueFault("select ?", 7);
        Check.dueFault("select ??x{}", 7);
        Check.dueFault("select ?7{}", 7);
        Check.dueFault("select ?X{}", 7);
        Check.dueFault("select ?x{abcdefghi b c}", 10);
        Check.dueFault("select ?x{a b 00000}", 14);
        Check.dueFault("select ?x{}limit 00001", 17);
        Check.dueFault("selectselect ?x{}", 0);
        for (char c = ' ' + 1; c <= '~'; c++) {
            if (!Character.isLowerCase(c) && !Character.isDigit(c) && c != '?') {
                Check.dueFault("select ?x{a " + c + " c}", 12);
                Check.dueFault("select ?x{a b" + c + "c}", 13);
            }
        }
        Check.dueFault("select ?x{} A", 12);
        Check.dueFault("select ?x{a B c} select", 12);
    }

    private static void tokensTogether() {
        Check.dueGood("select?x?y{?x?y?z.a 1b.1 2 3}order?x limit5");
        Check.dueGood("  select  distinct  ?x  {  }  order  ?y  desc  limit  0007  ");
        Check.dueGood("select?x{filter?x<?y.filter not 1=a.filter bound?x}");
        Check.dueFault("select ?xlimit 5", 15);
        Check.dueFault("select ?x{ab12}", 14);
        Check.dueFault("select ?x{}limit5desc", 17);
        Check.dueFault("select ?x{}limit5 6", 18);
    }

    private static void grammar() {
        Check.dueFault("ann ?x{}", 0);
        Check.dueFault("?x{}", 0);
        Check.dueFault("select {}", 7);
        Check.dueFault("select distinct{}", 15);
        Check.dueFault("select distinct distinct ?x{}", 16);
        Check.dueFault("select ?x distinct{}", 10);
        Check.dueFault("select ?x ann{}", 10);
        Check.dueFault("select ?x}", 9);
        Check.dueFault("select ?x{.}", 10);
        Check.dueFault("select ?x{a b c.}", 16);
        Check.dueFault("select ?x{a b c..a b c}", 16);
        Check.dueFault("select ?x{a b c d}", 16);
        Check.dueFault("select ?x{a b c{}}", 15);
        Check.dueFault("select ?x{a b c filter a = a}", 16);
        Check.dueFault("select ?x{a . c}", 12);
        Check.dueFault("select ?x{a b c}{}", 16);
        Check.dueFault("select ?x{a b c}}", 16);
        Check.dueFault("select ?x{filter not}", 20);
        Check.dueFault("select ?x{filter bound a}", 23);
        Check.dueFault("select ?x{filter bound 7}", 23);
        Check.dueFault("select ?x{filter bound bound ?x}", 23);
        Check.dueFault("select ?x{filter ?x}", 19);
        Check.dueFault("select ?x{filter ?x . a}", 20);
        Check.dueFault("select ?x{filter ?x = = a}", 22);
        Check.dueFault("select ?x{filter ?x not = a}", 20);
        Check.dueFault("select ?x{filter ?x = not a}", 22);
        Check.dueFault("select ?x{filter = a}", 17);
        Check.dueFault("select ?x{filter {}}", 17);
        Check.dueFault("select ?x{optional a b c}", 19);
        Check.dueFault("select ?x{minus filter a = a}", 16);
        Check.dueFault("select ?x{optional{}union{}}", 20);
        Check.dueFault("select ?x{minus{}union{}}", 17);
        Check.dueFault("select ?x{union{}}", 10);
        Check.dueFault("select ?x{{}{}}", 12);
        Check.dueFault("select ?x{{}union a b c}", 18);
        Check.dueFault("select ?x{{}union}", 17);
        Check.dueFault("select ?x{{}union.a b c}", 17);
        Check.dueFault("select ?x{{ann}union{}}", 14);
        Check.dueFault("select ?x{optional}", 18);
        Check.dueFault("select ?x{minus.a b c}", 15);
        Check.dueFault("select ?x{}union{}", 11);
        Check.dueFault("select ?x{}order a", 17);
        Check.dueFault("select ?x{}order ?x ?x", 20);
        Check.dueFault("select ?x{}order ?x desc desc", 25);
        Check.dueFault("select ?x{}desc", 11);
        Check.dueFault("select ?x{}limit a", 17);
        Check.dueFault("select ?x{}limit limit", 17);
        Check.dueFault("select ?x{}limit 5 order ?x", 19);
        Check.dueFault("select ?x{}limit 5 limit 5", 19);
        Check.dueFault("select ?x{} select ?x{}", 12);
        Check.dueGood("select ?x{7 8 9.?x ?x ?x}");
        Check.dueGood("select ?x{filter 7 < 8.filter a > b.filter ?x ! ?x}");
        Check.dueGood("select ?x{optional{minus{{}union{}}}}");
    }

    private static void keys() {
        String[] keys = {"select", "distinct", "order", "desc", "limit", "filter", "optional",
            "minus", "union", "not", "bound"};
        for (String key : keys) {
            Check.dueFault("select ?x{a " + key + " b}", 12);
            Check.dueFault("select ?x{filter a = " + key + "}", 21);
            Check.dueGood("select ?" + key + "{a b " + key.substring(1) + "}");
            Check.dueGood("select ?x{a b " + key.substring(0, key.length() - 1) + "}");
        }
        Check.dueGood("select ?x{selects orders nots}");
    }

    private static void limits() {
        Check.dueGood("select ?a ?b ?c ?d ?e ?f{?a ?b ?c}order ?f");
        Check.dueFault("select ?a ?b ?c ?d ?e ?f ?g{}", 25);
        Check.dueFault("select ?a ?a ?a ?a ?a ?a ?a{}", 25);
        Check.dueFault("select ?a ?b ?c ?d ?e ?f{?a ?b ?g}", 31);
        Check.dueFault("select ?a ?b ?c ?d ?e ?f{filter bound ?g}", 38);
        Check.dueFault("select ?a ?b ?c ?d ?e ?f{filter a = ?g}", 36);
        Check.dueFault("select ?a{?b ?c ?d.?e ?f ?a}order ?g", 34);
        Check.dueGood("select ?a{?b ?c ?d.?e ?f ?a.?b ?c ?d}order ?f");
        elementLimit();
        depthLimit();
        unionLimit();
        Check.dueGood("select ?x{filter not not not not bound ?x}");
        Check.dueFault("select ?x{filter not not not not not bound ?x}", 33);
        Check.dueGood("select ?x{filter not not not not bound ?x.filter not a = b}");
    }

    private static void elementLimit() {
        String eleven = "a b c.".repeat(11);
        Check.dueGood("select ?x{" + eleven + "a b c}");
        Check.dueFault("select ?x{" + eleven + "a b c.a b c}", 10 + 72);
        Check.dueFault("select ?x{" + eleven + "a b c.}", 10 + 72);
        Check.dueFault("select ?x{" + eleven + "{a b c}}", 10 + 67);
        Check.dueGood("select ?x{" + eleven + "optional{}}");
        Check.dueFault("select ?x{" + eleven + "{}.optional{}}", 10 + 69);
        Check.dueGood("select ?x{{a b c}.{a b c}.{a b c}.{a b c}.{a b c}.{a b c}}");
        Check.dueFault("select ?x{{a b c}.{a b c}.{a b c}.{a b c}.{a b c}.{a b c}.filter}", 58);
        Check.dueFault("select ?x{{a b c}.{a b c}.{a b c}.{a b c}.{a b c}.{a b c}.}", 58);
        Check.dueFault("select ?x{" + "{}.".repeat(12) + "{}}", 46);
    }

    private static void depthLimit() {
        Check.dueGood("select ?x{{{{}}}}");
        Check.dueGood("select ?x{{{{}}}.{{{}}}}");
        Check.dueFault("select ?x{{{{{}}}}}", 13);
        Check.dueFault("select ?x{optional{minus{{{}}}}}", 26);
        Check.dueFault("select ?x{{{{optional{}}}}}", 21);
        Check.dueFault("select ?x{{{{minus{}}}}}", 18);
        Check.dueFault("select ?x{{{{}union{{}}}}}", 20);
    }

    private static void unionLimit() {
        String eleven = "{}union".repeat(11);
        Check.dueGood("select ?x{" + eleven + "{}}");
        Check.dueFault("select ?x{" + eleven + "{}union{}}", 10 + 84);
        Check.dueFault("select ?x{" + eleven + "{}union a}", 10 + 85);
        Check.dueFault("select ?x{" + eleven + "{}union}", 10 + 84);
        Check.dueGood("select ?x{" + "{}union".repeat(9) + "{}." + "{}union".repeat(9) + "{}}");
    }

    private static void faultIsOfTheLastAsk() {
        TripleStore store = Check.storeOf("a b c");
        Check.due("before the first one", store.fault(), -1);
        Check.dueRows(store, "select ?x ?y{?x b ?y}", "a c");
        Check.dueRows(store, "select ?x", "fault 9");
        Check.due("the rows stay", Check.rows(store), "a c");
        Check.due("the columns stay", store.count(1), 2);
        Check.write(store, "sel");
        Check.due("an append does not change it", store.fault(), 9);
        Check.due("the text goes on", Check.ask(store, "ect ?x{}"), "-");
        Check.due("no fault now", store.fault(), -1);
        Check.dueRows(store, "a", "fault 0");
        Check.due("the rows stay", Check.rows(store), "-");
    }
}
