import java.util.ArrayList;
import java.util.Arrays;
import java.util.List;
import java.util.Set;

/** The query's text, its tokens, the grammar, the fault: one test for each sentence that names an edge. */
public final class TextSentencesTest {
    private static final String WRONG = "IllegalArgumentException";
    private static final String STATE = "IllegalStateException";
    private static final String[] KEYS = {"select", "distinct", "order", "desc", "limit", "filter", "optional",
        "minus", "union", "not", "bound"};
    /** Has every kind of part that a query can have. */
    private static final String[] WHOLE = ("select distinct ?x { a b ?y . filter not ?y = 7 . filter bound ?x . "
        + "optional { } . minus { } . { } union { } } order ?y desc limit 5").split(" ");
    /** How many of the whole one's tokens are a query already. */
    private static final Set<Integer> ENDS = Set.of(WHOLE.length, WHOLE.length - 2, WHOLE.length - 3, WHOLE.length - 5);
    private static final String OTHERS = "\"#$%&'()*+,-/:;@ABCXYZ[\\]^_`|~";

    public static void main(String[] args) {
        Check.sentence("A QUERY is a text of up to 160 characters", TextSentencesTest::longestText);
        Check.sentence("of codes 32 .. 126", TextSentencesTest::codes);
        Check.sentence("TOKENS, blanks parting them", TextSentencesTest::blanks);
        Check.sentence("a WORD, as many small letters as stand together", TextSentencesTest::wordTokens);
        Check.sentence("a NUMBER, as many digits", TextSentencesTest::numberTokens);
        Check.sentence("a VARIABLE, ? and the letters behind it", TextSentencesTest::variableTokens);
        Check.sentence("and { } . = < > ! each", TextSentencesTest::signTokens);
        Check.sentence("A WORD of more than 8 letters ... can not stand anywhere.", TextSentencesTest::longWords);
        Check.sentence("a NUMBER of more than 4 digits ... can not stand anywhere.", TextSentencesTest::longNumbers);
        Check.sentence("a VARIABLE with none or more than 8 letters ... can not stand anywhere.",
            TextSentencesTest::variablesOfNoOrManyLetters);
        Check.sentence("and other characters can not stand anywhere", TextSentencesTest::otherCharacters);
        Check.sentence("The words select distinct order desc limit filter optional minus union not bound are KEYS",
            TextSentencesTest::keys);
        Check.sentence("other words are terms", TextSentencesTest::otherWords);
        Check.sentence("QUERY: select [distinct] VARIABLE <VARIABLE> GROUP [order VARIABLE [desc]] [limit NUMBER] "
            + "and nothing more.", TextSentencesTest::wholeQuery);
        Check.sentence("GROUP: { [ELEMENT <. ELEMENT>] }.", TextSentencesTest::groups);
        Check.sentence("ELEMENT: a PATTERN of three TERMS or VARIABLES; filter TEST; optional GROUP; minus GROUP; "
            + "GROUP <union GROUP>.", TextSentencesTest::elements);
        Check.sentence("TEST: not TEST; bound VARIABLE; or a SIDE, one of = < > !, a SIDE, each a term or a VARIABLE.",
            TextSentencesTest::tests);
        Check.sentence("THE FAULT is at the first token that can not stand there", TextSentencesTest::firstFault);
        Check.sentence("(where one lacks, behind the last one's end", TextSentencesTest::lackingToken);
        Check.sentence("0 in an empty text)", TextSentencesTest::emptyText);
        Check.sentence("or that is one too many: the 7th different VARIABLE", TextSentencesTest::seventhVariable);
        Check.sentence("a 7th selected one", TextSentencesTest::seventhSelected);
        Check.sentence("the 13th ELEMENT (its first token)", TextSentencesTest::thirteenthElement);
        Check.sentence("the 13th ELEMENT", TextSentencesTest::thirteenthElementOfAll);
        Check.sentence("the { of a GROUP that would be the 5th within one another (the first GROUP is one)",
            TextSentencesTest::fifthGroupWithin);
        Check.sentence("or of a 13th one of one ELEMENT", TextSentencesTest::thirteenthGroup);
        Check.sentence("a 5th not one behind another", TextSentencesTest::fifthNot);
        Check.end();
    }

    /** A query of so many characters that has the row 7. */
    private static String queryOf(int characters) {
        String query = "select ?x{a b ?x";
        return query + " ".repeat(characters - query.length() - 1) + "}";
    }

    private static void longestText() {
        TripleStore store = Check.storeOf("a b 7");
        Check.write(store, queryOf(160));
        Check.due("160 are there", store.count(6), 160);
        Check.due("one more", Check.answer(() -> store.append(' ', 1)), STATE);
        Check.due("160 still", store.count(6), 160);
        Check.due("it is answered", store.ask(), 1);
        Check.due("its row", Check.rows(store), "7");
        Check.write(store, queryOf(159));
        Check.due("not two more", Check.answer(() -> store.append(Check.packed("  "), 2)), STATE);
        Check.due("but one", store.append(' ', 1), 160);
        Check.due("none more", Check.answer(() -> store.append(Check.packed("        "), 8)), STATE);
        Check.due("it is answered", store.ask(), 1);
    }

    private static void codes() {
        for (int code = 0; code < 256; code++) {
            TripleStore store = new TripleStore();
            boolean good = code >= 32 && code <= 126;
            for (int n = 1; n <= 8; n++) {
                for (int place = 0; place < n; place++) {
                    long value = Check.packed("a".repeat(n)) & ~(255L << 8 * place) | (long) code << 8 * place;
                    int size = n;
                    int had = store.count(6);
                    Check.due("code " + code + " at " + place + " of " + n,
                        Check.answer(() -> store.append(value, size)), good ? String.valueOf(had + n) : WRONG);
                }
                Check.answer(store::ask);
            }
        }
    }

    private static void blanks() {
        Check.dueGood("   select   ?x   {   a   b   c   .   ?x   b   7   }   limit   5   ");
        Check.dueFault("sel ect ?x{}", 0);
        Check.dueFault("select ? x{}", 7);
        Check.dueFault("select ?x{a b c c}", 16);
        Check.dueGood("select ?x{a b cc}");
        Check.dueFault("select ?x{a b 1 1}", 16);
        Check.dueGood("select ?x{a b 11}");
    }

    private static void wordTokens() {
        Check.dueFault("selectx ?x{}", 0);
        Check.dueFault("selec ?x{}", 0);
        Check.dueFault("select ?x{}orderby ?x", 11);
        Check.dueFault("select ?x{ab c}", 14);
        Check.dueGood("select ?x{a1b}");
        Check.dueFault("select ?x{aBc}", 11);
    }

    private static void numberTokens() {
        TripleStore store = Check.storeOf("a b 12");
        Check.dueRows(store, "select ?x{?x b 12}", "a");
        Check.dueRows(store, "select ?x{a b?x.filter?x=0012}", "12");
        Check.dueFault("select ?x{a b 1 2}", 16);
        Check.dueFault("select ?x{12}", 12);
        Check.dueGood("select ?x{1a2}");
    }

    private static void variableTokens() {
        Check.dueGood("select?x?y{?x?y?z}");
        Check.dueFault("select ?x7{}", 9);
        Check.dueFault("select ?xY{}", 9);
        Check.dueFault("select ?x y{}", 10);
        Check.dueRows(Check.storeOf("a b c"), "select ?x?xx{?x b?xx}", "a c");
    }

    private static void signTokens() {
        Check.dueGood("select?x{{{}}}");
        Check.dueFault("select ?x{filter a<>b}", 19);
        Check.dueFault("select ?x{filter a!=b}", 19);
        Check.dueFault("select ?x{filter a==b}", 19);
        Check.dueFault("select ?x{a b c..}", 16);
        Check.dueFault("select ?x{}}", 11);
    }

    /** The token is at fault before each token of the whole query, and behind the last one. */
    private static void dueNowhere(String token) {
        for (int at = 0; at <= WHOLE.length; at++) {
            List<String> tokens = new ArrayList<>(Arrays.asList(WHOLE));
            String before = String.join(" ", tokens.subList(0, at));
            tokens.add(at, token);
            Check.dueFault(String.join(" ", tokens), at == 0 ? 0 : before.length() + 1);
        }
    }

    private static void longWords() {
        dueNowhere("abcdefghi");
        dueNowhere("distincts");
        dueNowhere("a".repeat(20));
        Check.dueGood("select ?x{abcdefgh abcdefgh abcdefgh}");
    }

    private static void longNumbers() {
        dueNowhere("10000");
        dueNowhere("00000");
        dueNowhere("4294967301");
        Check.dueGood("select ?x{a b 9999}limit 9999");
        Check.dueGood("select ?x{a b 0000}limit 0000");
        Check.dueFault("select ?x{}limit 00001", 17);
    }

    private static void variablesOfNoOrManyLetters() {
        dueNowhere("?");
        dueNowhere("?abcdefghi");
        Check.dueFault("select ?", 7);
        Check.dueFault("select ??x{}", 7);
        Check.dueGood("select ?a?abcdefgh{}");
    }

    private static void otherCharacters() {
        for (char c : OTHERS.toCharArray()) {
            dueNowhere(String.valueOf(c));
            Check.dueFault("select ?x{a b" + c + "c}", 13);
        }
    }

    private static void keys() {
        for (String key : KEYS) {
            Check.dueFault("select ?x{a " + key + " b}", 12);
            Check.dueFault("select ?x{a b " + key + "}", 14);
            Check.dueFault("select ?x{filter " + key + " = a}", 17 + (key.matches("not|bound") ? key.length() + 1 : 0));
            Check.dueFault("select ?x{filter a = " + key + "}", 21);
            Check.dueGood("select ?" + key + "{}");
            TripleStore store = Check.storeOf(key + " " + key + " " + key);
            Check.dueRows(store, "select ?x{?x ?x ?x}", key);
        }
    }

    private static void otherWords() {
        for (String key : KEYS) {
            String shorter = key.substring(1);
            String other = key.substring(0, key.length() - 1) + "q";
            TripleStore store = Check.storeOf(shorter + " " + other + " " + shorter);
            Check.dueRows(store, "select ?x{?x " + other + " " + shorter + "}", shorter);
        }
        TripleStore store = Check.storeOf("where from by");
        Check.dueRows(store, "select ?x{where from ?x.filter ?x = by}", "by");
    }

    private static void wholeQuery() {
        Check.dueGood("select ?x{}");
        Check.dueGood("select distinct ?x ?y{}order ?z desc limit 0");
        Check.dueGood("select ?x{}limit 1");
        Check.dueGood("select ?x{}order ?x limit 1");
        Check.dueFault("select{}", 6);
        Check.dueFault("select distinct{}", 15);
        Check.dueFault("select distinct distinct ?x{}", 16);
        Check.dueFault("select ?x distinct{}", 10);
        Check.dueFault("distinct ?x{}", 0);
        Check.dueFault("select a{}", 7);
        Check.dueFault("select 1{}", 7);
        Check.dueFault("select ?x order ?x", 10);
        Check.dueFault("select ?x{}desc", 11);
        Check.dueFault("select ?x{}order desc", 17);
        Check.dueFault("select ?x{}order a", 17);
        Check.dueFault("select ?x{}order 1", 17);
        Check.dueFault("select ?x{}order ?x desc ?y", 25);
        Check.dueFault("select ?x{}order ?x ?y", 20);
        Check.dueFault("select ?x{}limit a", 17);
        Check.dueFault("select ?x{}limit ?x", 17);
        Check.dueFault("select ?x{}limit 1 order ?x", 19);
        for (String more : new String[] {"a", "1", "?x", "{", "}", ".", "=", "select", "limit 1", "union{}"}) {
            Check.dueFault("select ?x{}order ?x desc limit 1 " + more, 33);
        }
        for (String more : new String[] {"a", "1", "?x", "{}", "}", ".", "select", "distinct", "not", "union{}"}) {
            Check.dueFault("select ?x{} " + more, 12);
        }
    }

    private static void groups() {
        Check.dueGood("select ?x{}");
        Check.dueGood("select ?x{a b c}");
        Check.dueGood("select ?x{a b c.a b c.{a b c.{}}}");
        Check.dueFault("select ?x{.}", 10);
        Check.dueFault("select ?x{.a b c}", 10);
        Check.dueFault("select ?x{a b c.}", 16);
        Check.dueFault("select ?x{a b c..a b c}", 16);
        Check.dueFault("select ?x{a b c a b c}", 16);
        Check.dueFault("select ?x{{}{}}", 12);
        Check.dueFault("select ?x{optional{}minus{}}", 20);
        Check.dueFault("select ?x{{a b c.}}", 17);
        Check.dueFault("select ?x}", 9);
    }

    private static void elements() {
        Check.dueGood("select ?x{a b c.1 2 3.?x ?y ?z.a 1 ?x}");
        Check.dueFault("select ?x{a}", 11);
        Check.dueFault("select ?x{a b}", 13);
        Check.dueFault("select ?x{a b c d}", 16);
        Check.dueFault("select ?x{a b =}", 14);
        Check.dueFault("select ?x{filter}", 16);
        Check.dueFault("select ?x{filter{}}", 16);
        Check.dueFault("select ?x{optional}", 18);
        Check.dueFault("select ?x{optional a b c}", 19);
        Check.dueFault("select ?x{minus}", 15);
        Check.dueFault("select ?x{minus a b c}", 16);
        Check.dueFault("select ?x{optional{}union{}}", 20);
        Check.dueFault("select ?x{minus{}union{}}", 17);
        Check.dueFault("select ?x{{}union}", 17);
        Check.dueFault("select ?x{{}union a b c}", 18);
        Check.dueFault("select ?x{{}union optional{}}", 18);
        Check.dueFault("select ?x{union{}}", 10);
        Check.dueGood("select ?x{{}.{}union{}.{}union{}union{}}");
    }

    private static void tests() {
        Check.dueGood("select ?x{filter a=1.filter 1<?x.filter ?x>a.filter ?x!?x}");
        Check.dueGood("select ?x{filter not not bound ?x.filter not a=a}");
        Check.dueFault("select ?x{filter not}", 20);
        Check.dueFault("select ?x{filter bound}", 22);
        Check.dueFault("select ?x{filter bound a}", 23);
        Check.dueFault("select ?x{filter bound 1}", 23);
        Check.dueFault("select ?x{filter bound not ?x}", 23);
        Check.dueFault("select ?x{filter bound ?x = a}", 26);
        Check.dueFault("select ?x{filter ?x}", 19);
        Check.dueFault("select ?x{filter ?x ?x}", 20);
        Check.dueFault("select ?x{filter ?x=}", 20);
        Check.dueFault("select ?x{filter =?x}", 17);
        Check.dueFault("select ?x{filter ?x=not a}", 20);
        Check.dueFault("select ?x{filter ?x=a=a}", 21);
        Check.dueFault("select ?x{filter ?x.a}", 19);
    }

    private static void firstFault() {
        Check.dueFault("select ?x{A B C}D", 10);
        Check.dueFault("select ?x{a b }c}", 14);
        Check.dueFault("select ?x{a b c}} ~", 16);
        Check.dueFault("~select", 0);
        Check.dueFault("select ?x{a b ?abcdefghi", 14);
        Check.dueFault("select ?a?b?c?d?e?f{a . ?g}", 22);
        Check.dueFault("select ?a?b?c?d?e?f{?g . a}", 20);
        Check.dueFault("select ?a?a?a?a?a?a?a{", 19);
        Check.dueFault("select ?x{}limit 5.5", 18);
    }

    private static void lackingToken() {
        for (int tokens = 1; tokens <= WHOLE.length; tokens++) {
            String text = String.join(" ", Arrays.asList(WHOLE).subList(0, tokens));
            if (ENDS.contains(tokens)) {
                Check.dueGood(text);
            } else {
                Check.dueFault(text, text.length());
                Check.dueFault(text + "     ", text.length());
                Check.dueFault("  " + text + " ", text.length() + 2);
            }
        }
        String full = "select ?x{" + " ".repeat(149) + "a";
        Check.dueFault(full, 160);
        Check.dueFault("select ?x" + " ".repeat(151), 9);
    }

    private static void emptyText() {
        TripleStore store = new TripleStore();
        Check.due("at first", Check.ask(store, ""), "fault 0");
        Check.due("a fault elsewhere", Check.ask(store, "select"), "fault 6");
        Check.due("empty again", Check.ask(store, ""), "fault 0");
        Check.due("no token stands in blanks", Check.ask(store, " "), "fault 0");
        Check.due("nor in as many as there can be", Check.ask(store, " ".repeat(160)), "fault 0");
    }

    private static void seventhVariable() {
        String six = "select ?a?b?c?d?e?f{";
        Check.dueGood(six + "?a?b?c.?d?e?f.filter?a=?f.filter bound?b}order?c");
        Check.dueFault(six + "?g?a?b}", 20);
        Check.dueFault(six + "?a?g?b}", 22);
        Check.dueFault(six + "?a?b?g}", 24);
        Check.dueFault(six + "filter?g=?a}", 26);
        Check.dueFault(six + "filter?a=?g}", 29);
        Check.dueFault(six + "filter bound?g}", 32);
        Check.dueFault(six + "filter not?g=?a}", 30);
        Check.dueFault(six + "optional{a b?g}}", 32);
        Check.dueFault(six + "minus{a b?g}}", 29);
        Check.dueFault(six + "{}union{a b?g}}", 31);
        Check.dueFault(six + "}order?g", 26);
        Check.dueFault("select ?a{?b?c?d.?e?f?g}", 21);
        Check.dueFault("select ?a{?b?c?d.?e?f?a.?g?a?a}", 24);
        Check.dueFault("select ?a{{?a?b?c}union{?d?e?f}}order?g", 37);
        Check.dueGood("select ?a{{?a?b?c}union{?d?e?f}}order?f");
    }

    private static void seventhSelected() {
        Check.dueGood("select ?a?a?a?a?a?a{}");
        Check.dueFault("select ?a?a?a?a?a?a?a{}", 19);
        Check.dueFault("select ?a?b?a?b?a?b?b{}", 19);
        Check.dueFault("select distinct ?a?b?c?d?e?f?f{}", 28);
        Check.dueFault("select ?a?b?c?d?e?f?g{}", 19);
    }

    private static void thirteenthElement() {
        String twelve = "select ?x{" + "a b c.".repeat(11) + "a b c";
        Check.dueGood(twelve + "}");
        for (String element : new String[] {"a b c", "1 b c", "?x b c", "filter a=a", "optional{}", "minus{}", "{}",
            "{}union{}", "?a?b?c", "optional", "filter"}) {
            Check.dueFault(twelve + "." + element + "}", twelve.length() + 1);
            Check.dueFault(twelve + "  .  " + element, twelve.length() + 5);
        }
        Check.dueFault(twelve + ".", twelve.length() + 1);
        for (String kind : new String[] {"filter a=a", "{}", "minus{}", "1 1 1"}) {
            String last = "select ?x{" + (kind + ".").repeat(11) + kind;
            Check.dueGood(last + "}");
            Check.dueFault(last + ".a b c}", last.length() + 1);
        }
        String optionals = "select ?x{" + "optional{}.".repeat(11);
        Check.dueGood(optionals + "optional{}}");
        Check.dueFault(optionals + "{}.optional{}}", optionals.length() + 3);
    }

    private static void thirteenthElementOfAll() {
        String eleven = "select ?x{" + "a b c.".repeat(11);
        Check.dueGood(eleven + "{}}");
        Check.dueFault(eleven + "{a b c}}", eleven.length() + 1);
        Check.dueFault(eleven + "{}union{a b c}}", eleven.length() + 8);
        Check.dueFault(eleven + "minus{?x b c}}", eleven.length() + 6);
        Check.dueFault(eleven + "optional{{}}}", eleven.length() + 9);
        String within = "select ?x{{a b c.a b c.a b c.{a b c}}.{a b c}union{a b c.a b c}.a b c.optional{";
        Check.dueGood(within + "}}");
        Check.dueFault(within + "a b c}}", within.length());
        Check.dueFault(within + "}.a b c}", within.length() + 2);
    }

    private static void fifthGroupWithin() {
        Check.dueGood("select ?x{{{{}}}}");
        Check.dueFault("select ?x{{{{{}}}}}", 13);
        Check.dueGood("select ?x{optional{minus{{}}}}");
        Check.dueFault("select ?x{optional{minus{{{}}}}}", 26);
        Check.dueFault("select ?x{{{{optional{}}}}}", 21);
        Check.dueFault("select ?x{{{{minus {}}}}}", 19);
        Check.dueFault("select ?x{{{{a b c.{}}}}}", 19);
        Check.dueFault("select ?x{{{{}union{{}}}}}", 20);
        Check.dueFault("select ?x{{}union{{{}union{{}}}}}", 27);
        Check.dueGood("select ?x{{{{}}}.{{{}}union{{}}}union{{{}union{}}}.minus{{{}}}}");
    }

    private static void thirteenthGroup() {
        String twelve = "select ?x{" + "{}union".repeat(11) + "{}";
        Check.dueGood(twelve + "}");
        Check.dueFault(twelve + "union{}}", twelve.length() + 5);
        Check.dueFault(twelve + "union {}}", twelve.length() + 6);
        Check.dueFault(twelve + "union{a}}", twelve.length() + 5);
        Check.dueFault(twelve + "union a}", twelve.length() + 6);
        Check.dueFault(twelve + "union", twelve.length() + 5);
        Check.dueGood(twelve + ".{}union{}union{}}");
        Check.dueGood(twelve + ".optional{}.minus{}.{}}");
        String inner = "select ?x{{" + "{}union".repeat(11) + "{}";
        Check.dueGood(inner + "}union{}}");
        Check.dueFault(inner + "union{}}union{}}", inner.length() + 5);
        String filled = "select ?x{" + "{a b c}union".repeat(11);
        Check.dueGood(filled + "{}}");
        Check.dueFault(filled + "{}union{}}", filled.length() + 7);
    }

    private static void fifthNot() {
        Check.dueGood("select ?x{filter not not not not a=a}");
        Check.dueGood("select ?x{filter not not not not bound?x}");
        Check.dueFault("select ?x{filter not not not not not a=a}", 33);
        Check.dueFault("select ?x{filter not not not not not bound?x}", 33);
        Check.dueFault("select ?x{filter not not not not not not a=a}", 33);
        Check.dueFault("select ?x{filter not not not not not", 33);
        Check.dueFault("select ?x{filter not not not not", 32);
        Check.dueGood("select ?x{filter not not not not a=a.filter not not not not a=a.filter not a=a}");
        Check.dueFault("select ?x{filter not not a=a.filter not not not not not a=a}", 52);
    }
}
