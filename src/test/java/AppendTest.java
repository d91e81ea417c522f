/** Promise 9: append. */
public final class AppendTest {
    private static final String WRONG = "IllegalArgumentException";

    public static void main(String[] args) {
        orderOfBytes();
        ranges();
        longest();
        Check.end();
    }

    private static void orderOfBytes() {
        TripleStore store = Check.storeOf("a b c");
        Check.due("the lowest of many", store.append(0x7f00ff0073656c65L, 4), 4);
        Check.due("two", store.append(Check.packed("ct"), 2), 6);
        Check.due("a blank", store.append(' ', 1), 7);
        Check.due("eight", store.append(Check.packed("?x{a b ?"), 8), 15);
        Check.due("the last", store.append(Check.packed("x}"), 2), 17);
        Check.due("characters", store.count(6), 17);
        Check.due("rows", store.ask(), 1);
        Check.due("the row", Check.rows(store), "c");
        Check.due("empty behind it", store.count(6), 0);
    }

    private static void ranges() {
        TripleStore store = new TripleStore();
        for (int n : new int[] {0, -1, 9, Integer.MIN_VALUE, Integer.MAX_VALUE}) {
            Check.due("n " + n, Check.answer(() -> store.append(Check.packed("aaaaaaaa"), n)), WRONG);
        }
        for (int code : new int[] {0, 10, 31, 127, 128, 160, 255}) {
            Check.due("code " + code, Check.answer(() -> store.append(code, 1)), WRONG);
            Check.due("first code " + code, Check.answer(() -> store.append(code << 8 | 'a', 2)), WRONG);
            Check.due("last code " + code, Check.answer(() -> store.append('a' << 8 | code, 2)), WRONG);
            long top = (long) code << 56 | Check.packed("aaaaaaa");
            Check.due("top code " + code, Check.answer(() -> store.append(top, 8)), WRONG);
            int before = store.count(6);
            Check.due("not taken " + code, store.append(top, 7), before + 7);
        }
        Check.due("characters", store.count(6), 49);
        Check.due("code 32", store.append(32, 1), 50);
        Check.due("code 126", store.append(126, 1), 51);
        Check.due("a value below 0", Check.answer(() -> store.append(-1, 8)), WRONG);
    }

    private static void longest() {
        TripleStore store = new TripleStore();
        for (int i = 1; i < 20; i++) {
            Check.due("length", store.append(Check.packed("aaaaaaaa"), 8), 8L * i);
        }
        store.append(Check.packed("aaa"), 3);
        Check.due("161", Check.answer(() -> store.append(Check.packed("aaaaaa"), 6)), "IllegalStateException");
        Check.due("a wrong code comes first", Check.answer(() -> store.append(0, 8)), WRONG);
        Check.due("nothing put", store.count(6), 155);
        Check.due("160", store.append(Check.packed("aaaaa"), 5), 160);
        Check.due("161 by one", Check.answer(() -> store.append('a', 1)), "IllegalStateException");
        Check.due("a wrong n comes first", Check.answer(() -> store.append('a', 0)), WRONG);
        Check.due("a word of 160 letters", Check.answer(store::ask), WRONG);
        Check.due("room again", store.append('a', 1), 1);
    }
}
