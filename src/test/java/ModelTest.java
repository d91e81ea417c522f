import java.util.Random;

/** Promises 1 to 13: runs of calls on the program and on the model, which must answer alike. */
public final class ModelTest {
    private static final int RUNS = 1200;
    private static final int CELLS = 16;
    private static final int LAST_CALL = 512;
    // As many as a query's characters, its answer and its cells take, and some.
    private static final int LONGEST_STEP = 48;
    private static final String[] WORDS = {"a", "ab", "b", "c", "abcdefgh"};
    private static final String[] PREDICATES = {"p", "q"};
    private static final String[] NUMBERS = {"0", "1", "9", "10", "9999"};
    private static final String[] VARIABLES = {"?a", "?b", "?c", "?d", "?e", "?f"};
    private static final String[] PIECES = {"select", "distinct", "order", "desc", "limit", "filter", "optional",
        "minus", "union", "not", "bound", "{", "}", ".", "=", "<", ">", "!", "?a", "?g", "?", "a", "7", "00000",
        "abcdefghi", "A", " ", "{}", "{a b c}"};

    private static int answered = 0;
    private static int faults = 0;
    private static int tooMany = 0;

    // A fixed seed: the same calls every time.
    private final Random random;
    private final TripleStore store = new TripleStore();
    private final Model model = new Model();
    private final String run;
    private final int triples;
    private int calls = 0;

    private ModelTest(int run) {
        this.run = "run " + run + ", ";
        random = new Random(run);
        triples = run % 3 == 0 ? 48 : 12;
    }

    public static void main(String[] args) {
        for (int run = 0; run < RUNS; run++) {
            new ModelTest(run).calls();
        }
        System.out.println("rows answered: " + answered + ", faults: " + faults + ", too many: " + tooMany);
        Check.due("enough of each kind", answered > 1000 && faults > 1000 && tooMany > 100, true);
        Check.end();
    }

    private void calls() {
        for (int i = triples == 48 ? 60 : random.nextInt(triples); i > 0; i--) {
            change(true);
        }
        while (calls < LAST_CALL - LONGEST_STEP) {
            int choice = random.nextInt(20);
            if (choice < 6) {
                change(random.nextInt(3) > 0);
            } else if (choice < 12) {
                transact(choice);
            } else {
                askOne();
            }
        }
        Check.due(run + "not more calls than are promised", calls <= LAST_CALL, true);
    }

    private void same(String what, Check.Call program, Check.Call plain) {
        calls++;
        Check.due(run + what, Check.answer(program), Check.answer(plain));
    }

    private String pick(String[] from) {
        return from[random.nextInt(from.length)];
    }

    private String word() {
        return triples == 48 ? (char) ('a' + random.nextInt(6)) + "" : pick(WORDS);
    }

    private String term() {
        return random.nextInt(3) == 0 ? pick(NUMBERS) : word();
    }

    private void change(boolean add) {
        long s = random.nextInt(40) == 0 ? random.nextInt(70000) - 100 : Check.term(word());
        long p = random.nextInt(40) == 0 ? random.nextInt(70000) - 100 : Check.term(pick(PREDICATES));
        long o = random.nextInt(40) == 0 ? -random.nextInt(12000) : Check.term(term());
        if (add) {
            same("add", () -> store.add(s, p, o), () -> model.add(s, p, o));
        } else {
            same("remove", () -> store.remove(s, p, o), () -> model.remove(s, p, o));
        }
    }

    private void transact(int choice) {
        int keep = random.nextInt(12) == 0 ? random.nextInt(2000) - 500 : random.nextInt(4);
        switch (choice) {
            case 6:
            case 7:
                same("begin", store::begin, model::begin);
                break;
            case 8:
                same("commit", store::commit, model::commit);
                break;
            case 9:
                same("rollback", store::rollback, model::rollback);
                break;
            case 10:
                same("sync", store::sync, model::sync);
                break;
            default:
                if (random.nextInt(3) == 0) {
                    same("crash " + keep, () -> store.crash(keep), () -> model.crash(keep));
                }
                break;
        }
        counts();
    }

    private void counts() {
        int what = random.nextInt(9) - 1;
        same("count " + what, () -> store.count(what), () -> model.count(what));
    }

    private void askOne() {
        String query = query();
        if (random.nextInt(3) == 0) {
            query = spoilt(query);
        }
        for (int from = 0; from < query.length(); from += 8) {
            String part = query.substring(from, Math.min(from + 8, query.length()));
            same("append " + part, () -> store.append(Check.packed(part), part.length()),
                () -> model.append(Check.packed(part), part.length()));
        }
        String program = Check.answer(store::ask);
        Check.due(run + query, program, Check.answer(model::ask));
        calls++;
        answered += program.matches("[1-9].*") ? 1 : 0;
        faults += program.equals("IllegalArgumentException") ? 1 : 0;
        tooMany += program.equals("IllegalStateException") ? 1 : 0;
        same("fault of " + query, store::fault, model::fault);
        cells(query);
        counts();
    }

    /** All cells and the places behind them, or some of them if they are many. */
    private void cells(String query) {
        int rows = model.count(2) + 1;
        int columns = model.count(1) + 1;
        int places = rows * columns;
        for (int i = 0; i < Math.min(places, CELLS); i++) {
            int place = places <= CELLS ? i : random.nextInt(places);
            int row = place / columns;
            int column = place % columns;
            same("cell " + row + " " + column + " of " + query, () -> store.cell(row, column),
                () -> model.cell(row, column));
        }
    }

    private String query() {
        StringBuilder text = new StringBuilder("select ");
        text.append(random.nextInt(3) == 0 ? "distinct " : "");
        for (int i = random.nextInt(3); i >= 0; i--) {
            text.append(pick(VARIABLES)).append(random.nextBoolean() ? " " : "");
        }
        text.append(group(1));
        if (random.nextInt(3) == 0) {
            text.append("order ").append(pick(VARIABLES)).append(random.nextBoolean() ? " desc " : " ");
        }
        text.append(random.nextInt(5) == 0 ? "limit " + random.nextInt(12) : "");
        String query = text.toString();
        return query.length() > 160 ? query() : query;
    }

    private String group(int depth) {
        StringBuilder text = new StringBuilder("{");
        for (int i = random.nextInt(depth == 1 ? 5 : 3); i >= 0; i--) {
            text.append(random.nextInt(12) == 0 ? "" : element(depth) + (i == 0 ? "" : "."));
        }
        return text.append("}").toString().replace(".}", "}");
    }

    private String element(int depth) {
        int choice = random.nextInt(depth > 3 && random.nextInt(10) > 0 ? 9 : 15);
        if (choice < 7) {
            return side(term()) + " " + side(pick(PREDICATES)) + " " + side(term());
        }
        if (choice < 9) {
            return "filter " + test();
        }
        if (choice < 11) {
            return "optional" + group(depth + 1);
        }
        if (choice < 13) {
            return "minus" + group(depth + 1);
        }
        StringBuilder text = new StringBuilder(group(depth + 1));
        for (int i = random.nextInt(3); i > 0; i--) {
            text.append("union").append(group(depth + 1));
        }
        return text.toString();
    }

    private String side(String term) {
        return random.nextInt(3) == 0 ? term : pick(VARIABLES);
    }

    private String test() {
        if (random.nextInt(4) == 0) {
            return "not " + test();
        }
        if (random.nextInt(4) == 0) {
            return "bound " + pick(VARIABLES);
        }
        return side(term()) + " " + "=!<>".charAt(random.nextInt(4)) + " " + side(term());
    }

    private String spoilt(String query) {
        int at = random.nextInt(query.length() + 1);
        int behind = Math.min(query.length(), at + random.nextInt(4));
        String spoilt = query.substring(0, at) + (random.nextBoolean() ? pick(PIECES) : "") + query.substring(behind);
        return spoilt.substring(0, Math.min(160, spoilt.length()));
    }
}
