import java.util.Arrays;
import java.util.NoSuchElementException;

/**
 * A store of triples with transactions that survive crashes as far as they were synced, and a
 * query language over it. README.md tells how to use it.
 */
public final class TripleStore {
    private static final int CALL_LIMIT = 512;
    private static final int TRIPLE_LIMIT = 48;
    private static final int KEEP_LIMIT = 1000;
    private static final int TEXT_LIMIT = 160;
    private static final int WORD_LIMIT = 8;
    private static final int DIGIT_LIMIT = 4;
    private static final int NUMBER_COUNT = 10000;
    private static final int VARIABLE_LIMIT = 6;
    private static final int COLUMN_LIMIT = 6;
    private static final int ELEMENT_LIMIT = 12;
    private static final int UNION_LIMIT = 12;
    private static final int DEPTH_LIMIT = 4;
    private static final int NOT_LIMIT = 4;
    private static final int GROUP_LIMIT = ELEMENT_LIMIT * UNION_LIMIT + 1;
    private static final int SOLUTION_LIMIT = 150;

    private static final int NO_FAULT = -1;
    private static final int FIRST_GROUP = 0;

    private final Store store = new Store();
    private final char[] text = new char[TEXT_LIMIT];
    private final Tokens tokens = new Tokens();
    private final Query query = new Query();
    private final Parser parser = new Parser(tokens, query);
    private final Solver solver = new Solver(store, query);
    private final Rows rows = new Rows();
    private int length = 0;
    private int faultPlace = NO_FAULT;

    public TripleStore() {
    }

    public int add(long subject, long predicate, long object)
            throws IllegalArgumentException, IllegalStateException {
        if (!Terms.isTriple(subject, predicate, object)) {
            throw new IllegalArgumentException("no triple");
        }
        long s = Terms.held(subject);
        long p = Terms.held(predicate);
        long o = Terms.held(object);
        if (store.has(s, p, o)) {
            return 0;
        }
        if (store.size() >= TRIPLE_LIMIT) {
            throw new IllegalStateException("the store is full");
        }
        return store.insert(s, p, o);
    }

    public int remove(long subject, long predicate, long object) throws IllegalArgumentException {
        if (!Terms.isTriple(subject, predicate, object)) {
            throw new IllegalArgumentException("no triple");
        }
        return store.delete(Terms.held(subject), Terms.held(predicate), Terms.held(object));
    }

    public int begin() throws IllegalStateException {
        if (store.isOpen()) {
            throw new IllegalStateException("a transaction is open");
        }
        return store.openTransaction();
    }

    public int commit() throws IllegalStateException {
        if (!store.isOpen()) {
            throw new IllegalStateException("no transaction is open");
        }
        return store.commitOpen();
    }

    public int rollback() throws IllegalStateException {
        if (!store.isOpen()) {
            throw new IllegalStateException("no transaction is open");
        }
        return store.undoOpen();
    }

    public int sync() {
        return store.syncAll();
    }

    public int crash(int keep) throws IllegalArgumentException {
        if (keep < 0 || keep > KEEP_LIMIT) {
            throw new IllegalArgumentException("keep is out of range");
        }
        store.loseBut(keep);
        return store.size();
    }

    public int append(long value, int n) throws IllegalArgumentException, IllegalStateException {
        if (n < 1 || n > WORD_LIMIT || !areTextCodes(value, n)) {
            throw new IllegalArgumentException("n or a code is out of range");
        }
        if (length + n > TEXT_LIMIT) {
            throw new IllegalStateException("the query would be too long");
        }
        for (int left = n - 1; left >= 0; left--) {
            text[length] = (char) byteAt(value, left);
            length++;
        }
        return length;
    }

    public int ask() throws IllegalArgumentException, IllegalStateException {
        tokens.readAll(text, length);
        length = 0;
        boolean read = parser.readQuery();
        faultPlace = read ? NO_FAULT : tokens.place();
        if (!read) {
            throw new IllegalArgumentException("the query has a fault");
        }
        rows.clear(query.columns);
        if (!solver.solveGroup(FIRST_GROUP, 0)) {
            throw new IllegalStateException("too many solutions");
        }
        rows.fill(query, solver.solutions());
        return rows.size();
    }

    public int fault() {
        return faultPlace;
    }

    public long cell(int row, int column)
            throws NoSuchElementException, UnsupportedOperationException {
        if (!rows.hasPlace(row, column)) {
            throw new NoSuchElementException("no such place");
        }
        long held = rows.term(row, column);
        if (held == Terms.NONE) {
            throw new UnsupportedOperationException("the variable is given no term");
        }
        return Terms.shown(held);
    }

    public int count(int what) throws IllegalArgumentException {
        switch (what) {
            case 0:
                return store.size();
            case 1:
                return rows.columns();
            case 2:
                return rows.size();
            case 3:
                return store.committed();
            case 4:
                return store.unsynced();
            case 5:
                return store.changes();
            case 6:
                return length;
            default:
                throw new IllegalArgumentException("no such count");
        }
    }

    private static boolean areTextCodes(long value, int n) {
        for (int i = 0; i < n; i++) {
            int code = byteAt(value, i);
            if (code < ' ' || code > '~') {
                return false;
            }
        }
        return true;
    }

    private static int byteAt(long value, int fromLowest) {
        return (int) (value >>> (8 * fromLowest)) & 255;
    }

    /**
     * Terms as the face shows them, and as they are held inside: a word with its first letter
     * highest, a number n as n + 1. So a plain < is the order of terms, and 0, which is no term,
     * is less than all.
     */
    private static final class Terms {
        static final long NONE = 0;

        static boolean isTriple(long subject, long predicate, long object) {
            return isWord(subject) && isWord(predicate) && (isWord(object) || isNumber(object));
        }

        static boolean isWord(long shown) {
            long rest = shown;
            int letters = 0;
            while (letters < WORD_LIMIT && isLetter((int) (rest & 255))) {
                rest >>>= 8;
                letters++;
            }
            return letters > 0 && rest == 0;
        }

        static boolean isNumber(long shown) {
            return shown < 0 && shown >= -NUMBER_COUNT;
        }

        static boolean isHeldNumber(long held) {
            return held > NONE && held <= NUMBER_COUNT;
        }

        static boolean isLetter(int code) {
            return code >= 'a' && code <= 'z';
        }

        static boolean isDigit(int code) {
            return code >= '0' && code <= '9';
        }

        static long held(long shown) {
            if (shown < 0) {
                return -shown;
            }
            long word = shown;
            for (int i = 1; i < WORD_LIMIT && word >>> 56 == 0; i++) {
                word <<= 8;
            }
            return word;
        }

        static long shown(long held) {
            if (isHeldNumber(held)) {
                return -held;
            }
            long word = held;
            for (int i = 1; i < WORD_LIMIT && (word & 255) == 0; i++) {
                word >>>= 8;
            }
            return word;
        }
    }

    /** A list of triples of held terms, up to a limit. */
    private static final class Triples {
        private final long[] subjects;
        private final long[] predicates;
        private final long[] objects;
        private int size = 0;

        Triples(int limit) {
            subjects = new long[limit];
            predicates = new long[limit];
            objects = new long[limit];
        }

        int size() {
            return size;
        }

        boolean isFull() {
            return size >= subjects.length;
        }

        long subject(int i) {
            return i >= 0 && i < size ? subjects[i] : Terms.NONE;
        }

        long predicate(int i) {
            return i >= 0 && i < size ? predicates[i] : Terms.NONE;
        }

        long object(int i) {
            return i >= 0 && i < size ? objects[i] : Terms.NONE;
        }

        int find(long s, long p, long o) {
            for (int i = 0; i < size; i++) {
                if (subjects[i] == s && predicates[i] == p && objects[i] == o) {
                    return i;
                }
            }
            return -1;
        }

        void put(long s, long p, long o) {
            if (isFull()) {
                return;
            }
            subjects[size] = s;
            predicates[size] = p;
            objects[size] = o;
            size++;
        }

        /** The last one takes the place: the order of triples shows nowhere. */
        void drop(int i) {
            if (i < 0 || i >= size) {
                return;
            }
            size--;
            subjects[i] = subjects[size];
            predicates[i] = predicates[size];
            objects[i] = objects[size];
        }
    }

    /**
     * The triples and a log of every change with the number of its transaction: a rollback or a
     * crash takes the log's last changes back, one by one. A call makes one change at most, so
     * the log can be full only behind the last call that is promised; changes are refused then.
     */
    private static final class Store {
        private final Triples triples = new Triples(TRIPLE_LIMIT);
        private final Triples log = new Triples(CALL_LIMIT);
        private final boolean[] wasInsert = new boolean[CALL_LIMIT];
        private final int[] transactionOf = new int[CALL_LIMIT];
        private boolean open = false;
        private int changes = 0;
        private int committed = 0;
        private int unsynced = 0;

        int size() {
            return triples.size();
        }

        boolean isOpen() {
            return open;
        }

        int changes() {
            return changes;
        }

        int committed() {
            return committed;
        }

        int unsynced() {
            return unsynced;
        }

        boolean has(long s, long p, long o) {
            return triples.find(s, p, o) >= 0;
        }

        long subject(int i) {
            return triples.subject(i);
        }

        long predicate(int i) {
            return triples.predicate(i);
        }

        long object(int i) {
            return triples.object(i);
        }

        int insert(long s, long p, long o) {
            if (log.isFull() || triples.isFull()) {
                return 0;
            }
            triples.put(s, p, o);
            noteChange(s, p, o, true);
            return 1;
        }

        int delete(long s, long p, long o) {
            int place = triples.find(s, p, o);
            if (place < 0 || log.isFull()) {
                return 0;
            }
            triples.drop(place);
            noteChange(s, p, o, false);
            return 1;
        }

        private void noteChange(long s, long p, long o, boolean insert) {
            int last = log.size();
            if (last >= CALL_LIMIT) {
                return;
            }
            log.put(s, p, o);
            wasInsert[last] = insert;
            transactionOf[last] = committed;
            if (open) {
                changes++;
            } else {
                countCommitted();
            }
        }

        private void countCommitted() {
            committed++;
            unsynced++;
        }

        int openTransaction() {
            open = true;
            return committed;
        }

        int commitOpen() {
            int made = changes;
            open = false;
            changes = 0;
            countCommitted();
            return made;
        }

        int undoOpen() {
            int made = changes;
            undoFrom(committed);
            return made;
        }

        int syncAll() {
            int synced = unsynced;
            unsynced = 0;
            return synced;
        }

        void loseBut(int keep) {
            undoFrom(committed - unsynced + Math.min(keep, unsynced));
            unsynced = 0;
        }

        /** The open transaction bears the number that comes next, so it is always among these. */
        private void undoFrom(int transaction) {
            for (int i = log.size() - 1; i >= 0 && transactionOf[i] >= transaction; i--) {
                undoLast(i);
            }
            open = false;
            changes = 0;
        }

        private void undoLast(int last) {
            long s = log.subject(last);
            long p = log.predicate(last);
            long o = log.object(last);
            if (wasInsert[last]) {
                triples.drop(triples.find(s, p, o));
            } else {
                triples.put(s, p, o);
            }
            log.drop(last);
        }
    }

    /**
     * The tokens of a text, each with its place, and a cursor on them. Behind the last one stands
     * an END, which the cursor never passes.
     */
    private static final class Tokens {
        static final int END = 0;
        static final int BAD = 1;
        static final int KEY = 2;
        static final int SIGN = 3;
        static final int TERM = 4;
        static final int VARIABLE = 5;

        // The keys, as words are held.
        static final long SELECT = 0x73656c6563740000L;
        static final long DISTINCT = 0x64697374696e6374L;
        static final long ORDER = 0x6f72646572000000L;
        static final long DESC = 0x6465736300000000L;
        static final long LIMIT = 0x6c696d6974000000L;
        static final long FILTER = 0x66696c7465720000L;
        static final long OPTIONAL = 0x6f7074696f6e616cL;
        static final long MINUS = 0x6d696e7573000000L;
        static final long UNION = 0x756e696f6e000000L;
        static final long NOT = 0x6e6f740000000000L;
        static final long BOUND = 0x626f756e64000000L;

        private final int[] kinds = new int[TEXT_LIMIT + 1];
        private final long[] values = new long[TEXT_LIMIT + 1];
        private final int[] places = new int[TEXT_LIMIT + 1];
        private int size = 0;
        private int at = 0;

        int kind() {
            return kinds[at];
        }

        /** A key's word, a sign's code, a term, or a variable's name. */
        long value() {
            return values[at];
        }

        int place() {
            return places[at];
        }

        void step() {
            if (at < size - 1) {
                at++;
            }
        }

        boolean isAtSign(char sign) {
            return kinds[at] == SIGN && values[at] == sign;
        }

        boolean takeSign(char sign) {
            boolean taken = isAtSign(sign);
            if (taken) {
                step();
            }
            return taken;
        }

        boolean takeKey(long key) {
            boolean taken = kinds[at] == KEY && values[at] == key;
            if (taken) {
                step();
            }
            return taken;
        }

        void readAll(char[] text, int length) {
            int next = 0;
            int end = 0;
            at = 0;
            size = 0;
            for (int i = 0; i < TEXT_LIMIT && next < length; i++) {
                if (text[next] == ' ') {
                    next++;
                } else {
                    next = readToken(text, length, next);
                    end = next;
                }
            }
            note(END, 0, end);
        }

        private void note(int kind, long value, int place) {
            if (size > TEXT_LIMIT) {
                return;
            }
            kinds[size] = kind;
            values[size] = value;
            places[size] = place;
            size++;
        }

        /** Answers where the token ends. */
        private int readToken(char[] text, int length, int from) {
            char first = text[from];
            if (Terms.isLetter(first)) {
                return readWord(text, length, from);
            }
            if (Terms.isDigit(first)) {
                return readNumber(text, length, from);
            }
            if (first == '?') {
                return readVariable(text, length, from);
            }
            note(isSign(first) ? SIGN : BAD, first, from);
            return from + 1;
        }

        private int readWord(char[] text, int length, int from) {
            int end = endOfLetters(text, length, from);
            long word = packed(text, from, end);
            if (end - from > WORD_LIMIT) {
                note(BAD, 0, from);
            } else {
                note(isKey(word) ? KEY : TERM, word, from);
            }
            return end;
        }

        private int readVariable(char[] text, int length, int from) {
            int end = endOfLetters(text, length, from + 1);
            int letters = end - from - 1;
            boolean good = letters >= 1 && letters <= WORD_LIMIT;
            note(good ? VARIABLE : BAD, packed(text, from + 1, end), from);
            return end;
        }

        private int readNumber(char[] text, int length, int from) {
            int end = from;
            int number = 0;
            while (end < length && Terms.isDigit(text[end])) {
                number = number * 10 + (text[end] - '0');
                end++;
            }
            note(end - from <= DIGIT_LIMIT ? TERM : BAD, number + 1, from);
            return end;
        }

        private static int endOfLetters(char[] text, int length, int from) {
            int end = from;
            while (end < length && Terms.isLetter(text[end])) {
                end++;
            }
            return end;
        }

        private static long packed(char[] text, int from, int end) {
            long word = 0;
            for (int i = from; i < from + WORD_LIMIT; i++) {
                word = word << 8 | (i < end ? text[i] : 0);
            }
            return word;
        }

        private static boolean isSign(char c) {
            return c == '{' || c == '}' || c == '.' || c == '=' || c == '<' || c == '>' || c == '!';
        }

        private static boolean isKey(long word) {
            return word == SELECT || word == DISTINCT || word == ORDER || word == DESC
                    || word == LIMIT || word == FILTER || word == OPTIONAL || word == MINUS
                    || word == UNION || word == NOT || word == BOUND;
        }
    }

    /**
     * An element of a group. A pattern has three sides, a comparing test two, a test for bound
     * one: a side is a held term, or ~v for the variable number v.
     */
    private static final class Element {
        static final int PATTERN = 0;
        static final int FILTER = 1;
        static final int OPTIONAL = 2;
        static final int MINUS = 3;
        static final int GROUPS = 4;
        static final int BOUND_SIGN = 'b';

        private int kind = PATTERN;
        private int home = FIRST_GROUP;
        private long first = 0;
        private long second = 0;
        private long third = 0;
        private int sign = 0;
        private boolean negated = false;
    }

    /** What was read of a query: its elements in the order of the text, and of which group. */
    private static final class Query {
        static final int NO_ELEMENT = -1;
        static final int NO_VARIABLE = -1;
        static final int NO_GROUP = -1;

        private final long[] names = new long[VARIABLE_LIMIT];
        private int variables = 0;
        private final int[] selected = new int[COLUMN_LIMIT];
        private int columns = 0;
        private boolean distinct = false;
        private int orderVariable = NO_VARIABLE;
        private boolean falling = false;
        private int limit = SOLUTION_LIMIT;
        private final Element[] elements = new Element[ELEMENT_LIMIT];
        private int elementCount = 0;
        private final int[] elementOfGroup = new int[GROUP_LIMIT];
        private int groups = 0;

        Query() {
            for (int i = 0; i < ELEMENT_LIMIT; i++) {
                elements[i] = new Element();
            }
        }

        void clear() {
            variables = 0;
            columns = 0;
            distinct = false;
            orderVariable = NO_VARIABLE;
            falling = false;
            limit = SOLUTION_LIMIT;
            elementCount = 0;
            groups = 0;
        }

        /** The number of the variable of this name, NO_VARIABLE if it is one too many. */
        int variable(long name) {
            for (int v = 0; v < variables; v++) {
                if (names[v] == name) {
                    return v;
                }
            }
            if (variables >= VARIABLE_LIMIT) {
                return NO_VARIABLE;
            }
            names[variables] = name;
            variables++;
            return variables - 1;
        }

        int newElement(int home) {
            if (elementCount >= ELEMENT_LIMIT) {
                return NO_ELEMENT;
            }
            elements[elementCount].home = home;
            elementCount++;
            return elementCount - 1;
        }

        int newGroup(int element) {
            if (groups >= GROUP_LIMIT) {
                return NO_GROUP;
            }
            elementOfGroup[groups] = element;
            groups++;
            return groups - 1;
        }
    }

    /**
     * Reads a query by the grammar. Every reading method answers whether it could; where it
     * could not, it leaves the cursor at the token that is at fault.
     */
    private static final class Parser {
        private final Tokens tokens;
        private final Query query;
        // What readSide and readVariable have read last.
        private long side = 0;

        Parser(Tokens tokens, Query query) {
            this.tokens = tokens;
            this.query = query;
        }

        boolean readQuery() {
            query.clear();
            return tokens.takeKey(Tokens.SELECT) && readSelected()
                    && readGroup(Query.NO_ELEMENT, 0) && readOrder() && readLimit()
                    && tokens.kind() == Tokens.END;
        }

        /** A variable too many is left where a group must stand. */
        private boolean readSelected() {
            query.distinct = tokens.takeKey(Tokens.DISTINCT);
            for (int i = 0; i < COLUMN_LIMIT && tokens.kind() == Tokens.VARIABLE; i++) {
                if (!readVariable()) {
                    return false;
                }
                query.selected[i] = (int) ~side;
                query.columns = i + 1;
            }
            return query.columns > 0;
        }

        private boolean readOrder() {
            if (!tokens.takeKey(Tokens.ORDER)) {
                return true;
            }
            if (!readVariable()) {
                return false;
            }
            query.orderVariable = (int) ~side;
            query.falling = tokens.takeKey(Tokens.DESC);
            return true;
        }

        private boolean readLimit() {
            if (!tokens.takeKey(Tokens.LIMIT)) {
                return true;
            }
            long number = tokens.value();
            if (tokens.kind() != Tokens.TERM || !Terms.isHeldNumber(number)) {
                return false;
            }
            query.limit = (int) number - 1;
            tokens.step();
            return true;
        }

        /** depth: how many groups stand around this one. */
        private boolean readGroup(int element, int depth) {
            if (!tokens.isAtSign('{') || depth >= DEPTH_LIMIT) {
                return false;
            }
            int group = query.newGroup(element);
            if (group == Query.NO_GROUP) {
                return false;
            }
            tokens.step();
            if (tokens.takeSign('}')) {
                return true;
            }
            for (int i = 0; i < ELEMENT_LIMIT; i++) {
                if (!readElement(group, depth)) {
                    return false;
                }
                if (!tokens.takeSign('.')) {
                    return tokens.takeSign('}');
                }
            }
            return false;
        }

        private boolean readElement(int group, int depth) {
            int number = query.newElement(group);
            if (number == Query.NO_ELEMENT) {
                return false;
            }
            Element element = query.elements[number];
            if (tokens.takeKey(Tokens.FILTER)) {
                element.kind = Element.FILTER;
                readNots(element);
                return tokens.takeKey(Tokens.BOUND) ? readBound(element) : readComparison(element);
            }
            if (tokens.takeKey(Tokens.OPTIONAL)) {
                element.kind = Element.OPTIONAL;
                return readGroup(number, depth + 1);
            }
            if (tokens.takeKey(Tokens.MINUS)) {
                element.kind = Element.MINUS;
                return readGroup(number, depth + 1);
            }
            if (tokens.isAtSign('{')) {
                element.kind = Element.GROUPS;
                return readUnion(number, depth + 1);
            }
            element.kind = Element.PATTERN;
            return readPattern(element);
        }

        private boolean readUnion(int element, int depth) {
            for (int i = 0; i < UNION_LIMIT; i++) {
                if (!readGroup(element, depth)) {
                    return false;
                }
                if (!tokens.takeKey(Tokens.UNION)) {
                    return true;
                }
            }
            return false;
        }

        private boolean readPattern(Element pattern) {
            if (!readSide()) {
                return false;
            }
            pattern.first = side;
            if (!readSide()) {
                return false;
            }
            pattern.second = side;
            if (!readSide()) {
                return false;
            }
            pattern.third = side;
            return true;
        }

        /** A not too many is left where a side must stand, and no key can be one. */
        private void readNots(Element test) {
            test.negated = false;
            for (int i = 0; i < NOT_LIMIT && tokens.takeKey(Tokens.NOT); i++) {
                test.negated = !test.negated;
            }
        }

        private boolean readBound(Element test) {
            boolean read = readVariable();
            test.first = side;
            test.sign = Element.BOUND_SIGN;
            return read;
        }

        private boolean readComparison(Element test) {
            if (!readSide()) {
                return false;
            }
            test.first = side;
            if (!isAtComparison()) {
                return false;
            }
            test.sign = (int) tokens.value();
            tokens.step();
            boolean read = readSide();
            test.second = side;
            return read;
        }

        private boolean isAtComparison() {
            return tokens.isAtSign('=') || tokens.isAtSign('!')
                    || tokens.isAtSign('<') || tokens.isAtSign('>');
        }

        private boolean readSide() {
            if (tokens.kind() != Tokens.TERM) {
                return readVariable();
            }
            side = tokens.value();
            tokens.step();
            return true;
        }

        private boolean readVariable() {
            if (tokens.kind() != Tokens.VARIABLE) {
                return false;
            }
            int variable = query.variable(tokens.value());
            if (variable == Query.NO_VARIABLE) {
                return false;
            }
            side = ~variable;
            tokens.step();
            return true;
        }
    }

    /** A list of solutions: each has a held term for every variable, NONE where it gives none. */
    private static final class Solutions {
        private final long[] terms = new long[SOLUTION_LIMIT * VARIABLE_LIMIT];
        private int size = 0;

        int size() {
            return size;
        }

        void clear() {
            size = 0;
        }

        long term(int solution, int variable) {
            if (solution < 0 || solution >= size || variable < 0 || variable >= VARIABLE_LIMIT) {
                return Terms.NONE;
            }
            return terms[solution * VARIABLE_LIMIT + variable];
        }

        /** Answers whether there was room. */
        boolean put(long[] solution) {
            if (size >= SOLUTION_LIMIT) {
                return false;
            }
            System.arraycopy(solution, 0, terms, size * VARIABLE_LIMIT, VARIABLE_LIMIT);
            size++;
            return true;
        }

        void copy(int solution, long[] to) {
            if (solution >= 0 && solution < size) {
                System.arraycopy(terms, solution * VARIABLE_LIMIT, to, 0, VARIABLE_LIMIT);
            }
        }

        /** Joins one into the other if they are compatible; answers whether they are. */
        boolean joinInto(int solution, long[] other) {
            for (int v = 0; v < VARIABLE_LIMIT; v++) {
                long term = term(solution, v);
                if (other[v] == Terms.NONE) {
                    other[v] = term;
                } else if (term != Terms.NONE && term != other[v]) {
                    return false;
                }
            }
            return true;
        }

        boolean sharesVariable(int solution, long[] other) {
            for (int v = 0; v < VARIABLE_LIMIT; v++) {
                if (other[v] != Terms.NONE && term(solution, v) != Terms.NONE) {
                    return true;
                }
            }
            return false;
        }
    }

    /**
     * Finds the solutions of a query's groups. Every depth has the list found so far and the next
     * one, which the element at hand makes of it.
     */
    private static final class Solver {
        private final Store store;
        private final Query query;
        private final Solutions[] found = new Solutions[DEPTH_LIMIT];
        private final Solutions[] next = new Solutions[DEPTH_LIMIT];
        private final long[] draft = new long[VARIABLE_LIMIT];

        Solver(Store store, Query query) {
            this.store = store;
            this.query = query;
            for (int i = 0; i < DEPTH_LIMIT; i++) {
                found[i] = new Solutions();
                next[i] = new Solutions();
            }
        }

        Solutions solutions() {
            return found[0];
        }

        /** Answers whether no list became too long, as do the methods that it calls. */
        boolean solveGroup(int group, int depth) {
            if (depth < 0 || depth >= DEPTH_LIMIT) {
                return false;
            }
            Arrays.fill(draft, Terms.NONE);
            found[depth].clear();
            found[depth].put(draft);
            for (int e = 0; e < query.elementCount; e++) {
                int kind = query.elements[e].kind;
                if (query.elements[e].home == group && kind != Element.FILTER) {
                    next[depth].clear();
                    boolean room = kind == Element.PATTERN
                            ? joinPattern(query.elements[e], found[depth], next[depth])
                            : applyGroups(e, kind, depth);
                    if (!room) {
                        return false;
                    }
                    turn(depth);
                }
            }
            next[depth].clear();
            keepPassing(group, found[depth], next[depth]);
            turn(depth);
            return true;
        }

        private void turn(int depth) {
            Solutions done = found[depth];
            found[depth] = next[depth];
            next[depth] = done;
        }

        private boolean joinPattern(Element pattern, Solutions from, Solutions to) {
            for (int i = 0; i < from.size(); i++) {
                for (int t = 0; t < store.size(); t++) {
                    from.copy(i, draft);
                    if (fitsTriple(pattern, t) && !to.put(draft)) {
                        return false;
                    }
                }
            }
            return true;
        }

        private boolean fitsTriple(Element pattern, int triple) {
            return fitsTerm(pattern.first, store.subject(triple))
                    && fitsTerm(pattern.second, store.predicate(triple))
                    && fitsTerm(pattern.third, store.object(triple));
        }

        /** A variable that the draft does not give yet is given the term. */
        private boolean fitsTerm(long side, long term) {
            long given = termOf(side);
            if (given != Terms.NONE) {
                return given == term;
            }
            int variable = (int) ~side;
            if (variable >= 0 && variable < VARIABLE_LIMIT) {
                draft[variable] = term;
            }
            return true;
        }

        /** The term of a side in the draft, NONE if it is not there. */
        private long termOf(long side) {
            if (side >= 0) {
                return side;
            }
            int variable = (int) ~side;
            return variable >= 0 && variable < VARIABLE_LIMIT ? draft[variable] : Terms.NONE;
        }

        private boolean applyGroups(int element, int kind, int depth) {
            int inner = depth + 1;
            if (inner >= DEPTH_LIMIT) {
                return false;
            }
            for (int g = 0; g < query.groups; g++) {
                if (query.elementOfGroup[g] == element) {
                    if (!solveGroup(g, inner)
                            || !applySolved(kind, found[depth], found[inner], next[depth])) {
                        return false;
                    }
                }
            }
            return true;
        }

        private boolean applySolved(int kind, Solutions from, Solutions inner, Solutions to) {
            boolean minus = kind == Element.MINUS;
            for (int i = 0; i < from.size(); i++) {
                boolean room;
                if (kind != Element.GROUPS && !hasPartner(from, i, inner, minus)) {
                    from.copy(i, draft);
                    room = to.put(draft);
                } else {
                    room = minus || joinAll(from, i, inner, to);
                }
                if (!room) {
                    return false;
                }
            }
            return true;
        }

        private boolean joinAll(Solutions from, int solution, Solutions inner, Solutions to) {
            for (int j = 0; j < inner.size(); j++) {
                from.copy(solution, draft);
                if (inner.joinInto(j, draft) && !to.put(draft)) {
                    return false;
                }
            }
            return true;
        }

        /** Whether it is compatible with an inner one that shares a variable with it if it must. */
        private boolean hasPartner(Solutions from, int i, Solutions inner, boolean mustShare) {
            for (int j = 0; j < inner.size(); j++) {
                from.copy(i, draft);
                if ((!mustShare || inner.sharesVariable(j, draft)) && inner.joinInto(j, draft)) {
                    return true;
                }
            }
            return false;
        }

        private void keepPassing(int group, Solutions from, Solutions to) {
            for (int i = 0; i < from.size(); i++) {
                from.copy(i, draft);
                if (passesTests(group)) {
                    to.put(draft);
                }
            }
        }

        private boolean passesTests(int group) {
            for (int e = 0; e < query.elementCount; e++) {
                Element element = query.elements[e];
                if (element.home == group && element.kind == Element.FILTER
                        && holds(element) == element.negated) {
                    return false;
                }
            }
            return true;
        }

        private boolean holds(Element test) {
            long left = termOf(test.first);
            if (test.sign == Element.BOUND_SIGN) {
                return left != Terms.NONE;
            }
            long right = termOf(test.second);
            if (left == Terms.NONE || right == Terms.NONE) {
                return false;
            }
            switch (test.sign) {
                case '=':
                    return left == right;
                case '!':
                    return left != right;
                case '<':
                    return left < right;
                default:
                    return left > right;
            }
        }
    }

    /** The rows of the last query without a fault. */
    private static final class Rows {
        private final long[] terms = new long[SOLUTION_LIMIT * COLUMN_LIMIT];
        private final int[] order = new int[SOLUTION_LIMIT];
        private int columns = 0;
        private int size = 0;

        int columns() {
            return columns;
        }

        int size() {
            return size;
        }

        boolean hasPlace(int row, int column) {
            return row >= 0 && row < size && column >= 0 && column < columns;
        }

        long term(int row, int column) {
            return hasPlace(row, column) ? terms[row * COLUMN_LIMIT + column] : Terms.NONE;
        }

        void clear(int columns) {
            this.columns = Math.min(columns, COLUMN_LIMIT);
            size = 0;
        }

        /** Distinct rows are taken from the sorted ones: so each stands where it stands first. */
        void fill(Query query, Solutions solutions) {
            sort(query, solutions);
            for (int i = 0; i < solutions.size() && size < query.limit; i++) {
                takeRow(query, solutions, order[i]);
                if (!query.distinct || !isLastKnown()) {
                    size++;
                }
            }
        }

        /** Writes the row behind the last one, where it is no row yet. */
        private void takeRow(Query query, Solutions solutions, int solution) {
            if (size >= SOLUTION_LIMIT) {
                return;
            }
            for (int c = 0; c < columns; c++) {
                terms[size * COLUMN_LIMIT + c] = solutions.term(solution, query.selected[c]);
            }
        }

        private boolean isLastKnown() {
            for (int row = 0; row < size; row++) {
                if (isSameRow(row, size)) {
                    return true;
                }
            }
            return false;
        }

        private boolean isSameRow(int row, int other) {
            if (row >= SOLUTION_LIMIT || other >= SOLUTION_LIMIT) {
                return false;
            }
            for (int c = 0; c < columns; c++) {
                if (terms[row * COLUMN_LIMIT + c] != terms[other * COLUMN_LIMIT + c]) {
                    return false;
                }
            }
            return true;
        }

        private void sort(Query query, Solutions solutions) {
            for (int i = 0; i < solutions.size(); i++) {
                int place = i;
                while (place > 0 && standsBefore(query, solutions, i, order[place - 1])) {
                    order[place] = order[place - 1];
                    place--;
                }
                order[place] = i;
            }
        }

        private boolean standsBefore(Query query, Solutions solutions, int one, int other) {
            long left = solutions.term(one, query.orderVariable);
            long right = solutions.term(other, query.orderVariable);
            if (left != right) {
                return query.falling ? left > right : left < right;
            }
            for (int c = 0; c < columns; c++) {
                left = solutions.term(one, query.selected[c]);
                right = solutions.term(other, query.selected[c]);
                if (left != right) {
                    return left < right;
                }
            }
            return false;
        }
    }
}
