import java.util.Arrays;

/**
 * A small language of lists whose collections can be seen: weak references, ephemerons, tables with weak
 * keys, and procedures that are called for what has died.
 *
 * <p>All rows are made in the constructor and used again, so that no call makes objects. Nothing recurs but
 * the printer: forms that are not through stand as records in {@link Held}, and a step that finds the heap
 * too full leaves everything as it was, so that it can simply be done again behind the collection.
 */
public final class WeakScheme {

    private static final int NO_FAULT = 0;
    private static final int SYNTAX = 1;
    private static final int ROOM = 2;
    private static final int SHAPE = 3;
    private static final int FUEL = 4;
    private static final int UNBOUND = 5;
    private static final int NO_PROCEDURE = 6;
    private static final int OPERANDS = 7;
    private static final int DEEP = 8;
    private static final int TYPE = 9;
    private static final int DIVIDE = 10;
    private static final int RANGE = 11;
    private static final int MEMORY = 12;

    private static final int REFUSED = -1;
    private static final int NO_PLACE = -1;
    private static final int LEAST_CELLS = 100;
    private static final int MOST_CELLS = 20000;
    private static final int USUAL_CELLS = 2000;
    private static final int MOST_FUEL = 20000;

    /** A value is a long: its sort in the high half, a number, name, primitive or handle in the low one. */
    private static final int HALF = 32;
    private static final long LOW_HALF = 0xFFFFFFFFL;
    private static final long NUMBER = 0;
    private static final long SYMBOL = 2;
    private static final long PRIMITIVE = 3;
    private static final long OBJECT = 4;
    private static final long FALSE = 1L << HALF;
    private static final long TRUE = FALSE + 1;
    private static final long NIL = FALSE + 2;
    /** What a global name has at first. */
    private static final long NO_VALUE = 5L << HALF;
    /** What a list has among the data, where others have their value. */
    private static final long LIST = 6L << HALF;

    /** The handle of no object, and the frame of what is evaluated in none. */
    private static final int NONE = 0;

    private static final int PAIR = 1;
    private static final int VECTOR = 2;
    private static final int PROCEDURE = 3;
    private static final int FRAME = 4;
    private static final int WEAK = 5;
    private static final int EPHEMERON = 6;
    private static final int TABLE = 7;
    private static final int ENTRY = 8;

    private static final int PAIR_CELLS = 4;
    private static final int VECTOR_CELLS = 3;
    private static final int PROCEDURE_CELLS = 4;
    private static final int FRAME_CELLS = 3;
    private static final int WEAK_CELLS = 3;
    private static final int EPHEMERON_CELLS = 4;
    private static final int TABLE_CELLS = 3;
    private static final int ENTRY_CELLS = 5;
    private static final int LEAST_OBJECT = 3;

    /** Where an object keeps what; its cell 0 has its own handle, so that the cells can be gone through. */
    private static final int CAR = 1;
    private static final int CDR = 2;
    private static final int ELEMENTS = 1;
    private static final int LAMBDA_DATUM = 1;
    private static final int MADE_IN = 2;
    private static final int NAMES_DATUM = 1;
    private static final int AROUND = 2;
    private static final int SLOTS = 3;
    private static final int TARGET = 1;
    private static final int KEY = 1;
    private static final int VALUE = 2;
    private static final int NEXT_ENTRY = 3;
    private static final int FIRST_ENTRY = 1;
    private static final int ENTRIES = 2;

    /** The special names, in the order of their numbers, each with a blank behind. */
    private static final String SPECIAL_NAMES = "quote if set! define lambda let begin while and or ";
    private static final int SPECIALS = 10;
    private static final int QUOTE = 0;
    private static final int IF = 1;
    private static final int SET = 2;
    private static final int DEFINE = 3;
    private static final int LAMBDA = 4;
    private static final int LET = 5;
    private static final int BEGIN = 6;
    private static final int WHILE = 7;
    private static final int AND = 8;
    private static final int OR = 9;
    private static final int CALL = 10;
    /** What a record may be besides a form that begins. */
    private static final int LET_FRAME = 11;
    private static final int APPLY = 12;
    private static final int CALLED = 13;
    private static final int BODY = 14;
    private static final int QUEUE = 15;

    /** How many names a lambda or let may have, and operands a call. */
    private static final int MOST_BOUND = 8;
    private static final int MOST_DEPTH = 30;
    private static final int MOST_PROGRAM = 2000;
    private static final int MOST_FINALIZERS = 500;

    private static final Primitive[] PRIMITIVES = Primitive.values();

    private final Source source;
    private final Reader reader;
    private final Shape shape;
    private final Heap heap;
    private final Finalizers finalizers;
    private final Output output;
    private final Collector collector;
    private final Machine machine;
    private int faultPlace;
    private int fuelLeft;

    public WeakScheme(int cells) {
        boolean fits = cells >= LEAST_CELLS && cells <= MOST_CELLS;
        source = new Source();
        reader = new Reader(source);
        shape = new Shape(source);
        heap = new Heap(fits ? cells : USUAL_CELLS);
        finalizers = new Finalizers();
        output = new Output(source, heap);
        Held held = new Held();
        long[] globals = firstGlobals();
        collector = new Collector(source, heap, finalizers, held, globals);
        Operations operations = new Operations(source, heap, finalizers, output);
        machine = new Machine(source, heap, finalizers, held, globals, operations, collector);
        faultPlace = NO_PLACE;
    }

    public boolean feed(int a, int b, int c, int d, int e) {
        if (!reader.hasSpace()) {
            return false;
        }
        reader.append(a);
        reader.append(b);
        reader.append(c);
        reader.append(d);
        reader.append(e);
        return true;
    }

    public int run(int n, int fuel) {
        if (n < 0 || n > reader.length || fuel < 0 || fuel > MOST_FUEL) {
            return REFUSED;
        }
        fuelLeft = fuel;
        int first = source.size;
        reader.read(n);
        reader.length = 0;
        faultPlace = reader.faultPlace;
        if (reader.fault == NO_FAULT) {
            faultPlace = shape.firstFault(first, reader.places);
        }
        if (faultPlace != NO_PLACE) {
            source.size = first;
            return reader.fault == NO_FAULT ? SHAPE : reader.fault;
        }
        machine.execute(first, source.size, fuel);
        fuelLeft = machine.fuel;
        return machine.fault;
    }

    public int place() {
        return faultPlace;
    }

    public long fetch() {
        return output.take();
    }

    public int count(int what) {
        switch (what) {
            case 0:
                return heap.used;
            case 1:
                return heap.objects;
            case 2:
                return collector.collections;
            case 3:
                return finalizers.queued;
            case 4:
                return finalizers.registered;
            case 5:
                return reader.length;
            case 6:
                return output.waiting;
            case 7:
                return fuelLeft;
            case 8:
                return heap.numbersGiven;
            default:
                return REFUSED;
        }
    }

    private static long[] firstGlobals() {
        long[] globals = new long[Source.MOST_NAMES];
        Arrays.fill(globals, NO_VALUE);
        for (int i = 0; i < PRIMITIVES.length; i++) {
            globals[SPECIALS + i] = PRIMITIVE << HALF | i;
        }
        return globals;
    }

    private static long number(int n) {
        return n & LOW_HALF;
    }

    private static long symbol(int name) {
        return SYMBOL << HALF | name;
    }

    private static long object(int handle) {
        return OBJECT << HALF | handle;
    }

    private static long truth(boolean holds) {
        return holds ? TRUE : FALSE;
    }

    /**
     * The primitives: their names, and a letter for the sort of each operand (n number, p pair, v vector,
     * w weak, e ephemeron, t table, o any object, f procedure with one name, x anything).
     */
    private enum Primitive {
        ADD("+", "nn"),
        SUBTRACT("-", "nn"),
        MULTIPLY("*", "nn"),
        QUOTIENT("quotient", "nn"),
        REMAINDER("remainder", "nn"),
        EQUAL("=", "nn"),
        LESS("<", "nn"),
        SAME("eq?", "xx"),
        NOT("not", "x"),
        IS_NULL("null?", "x"),
        IS_PAIR("pair?", "x"),
        CONS("cons", "xx"),
        GET_CAR("car", "p"),
        GET_CDR("cdr", "p"),
        SET_CAR("set-car!", "px"),
        SET_CDR("set-cdr!", "px"),
        MAKE_VECTOR("vector", "nx"),
        VECTOR_GET("vector-get", "vn"),
        VECTOR_PUT("vector-put!", "vnx"),
        VECTOR_SIZE("vector-size", "v"),
        MAKE_WEAK("weak", "x"),
        WEAK_GET("weak-get", "w"),
        MAKE_EPHEMERON("ephemeron", "xx"),
        EPHEMERON_KEY("ephemeron-key", "e"),
        EPHEMERON_VALUE("ephemeron-value", "e"),
        MAKE_TABLE("table", ""),
        TABLE_PUT("table-put!", "txx"),
        TABLE_GET("table-get", "tx"),
        TABLE_SIZE("table-size", "t"),
        FINALIZE("finalize!", "of"),
        HASH("hash", "x"),
        GC("gc", ""),
        CELLS("cells", ""),
        PRINT("print", "x");

        final String word;
        final String sorts;

        Primitive(String word, String sorts) {
            this.word = word;
            this.sorts = sorts;
        }
    }

    /** What has been read and stays: names, and the data of all programs, each list ahead of what is in it. */
    private static final class Source {
        static final int MOST_LETTERS = 20;
        /** The 10 special ones, those of the 34 primitives, and 400 others. */
        static final int MOST_NAMES = 444;
        static final int MOST_DATA = 20000;

        final byte[] letters = new byte[MOST_NAMES * MOST_LETTERS];
        final int[] lengths = new int[MOST_NAMES];
        int names;
        /** What an atom is as a value, a name as a symbol; LIST for a list. */
        final long[] value = new long[MOST_DATA];
        /** Where the datum behind each one begins, so that a list's end and its elements can be found. */
        final int[] end = new int[MOST_DATA];
        /** In how many lists each datum stands. */
        final byte[] depth = new byte[MOST_DATA];
        int size;

        Source() {
            int from = 0;
            for (int i = 0; i < SPECIAL_NAMES.length(); i++) {
                if (SPECIAL_NAMES.charAt(i) == ' ') {
                    know(SPECIAL_NAMES, from, i);
                    from = i + 1;
                }
            }
            for (int i = 0; i < PRIMITIVES.length; i++) {
                know(PRIMITIVES[i].word, 0, PRIMITIVES[i].word.length());
            }
        }

        private void know(String words, int from, int to) {
            for (int i = from; i < to; i++) {
                letters[names * MOST_LETTERS + i - from] = (byte) words.charAt(i);
            }
            lengths[names] = to - from;
            names++;
        }

        /** The number of the name that stands in the text, or -1 if it is not known. */
        int find(byte[] text, int from, int to) {
            for (int name = 0; name < names; name++) {
                if (lengths[name] == to - from && isSpelled(name, text, from)) {
                    return name;
                }
            }
            return -1;
        }

        private boolean isSpelled(int name, byte[] text, int from) {
            for (int i = 0; i < lengths[name]; i++) {
                if (letters[name * MOST_LETTERS + i] != text[from + i]) {
                    return false;
                }
            }
            return true;
        }

        /** Makes a name known, and gives its number, or -1 if there is no room for one more. */
        int enter(byte[] text, int from, int to) {
            if (names == MOST_NAMES || to - from > MOST_LETTERS) {
                return -1;
            }
            System.arraycopy(text, from, letters, names * MOST_LETTERS, to - from);
            lengths[names] = to - from;
            names++;
            return names - 1;
        }

        boolean isName(int datum) {
            return value[datum] >> HALF == SYMBOL;
        }

        boolean isSpecial(int datum) {
            return value[datum] >> HALF == SYMBOL && (int) value[datum] < SPECIALS;
        }

        /** What a list that is not empty is as an expression: the number of its special name, or CALL. */
        int form(int list) {
            return isSpecial(list + 1) ? (int) value[list + 1] : CALL;
        }

        int elements(int list) {
            int found = 0;
            for (int datum = list + 1; datum < end[list]; datum = end[datum]) {
                found++;
            }
            return found;
        }

        /** Which of the names of a lambda's or let's brackets this one is, from 0, or -1. */
        int slot(int list, long name) {
            int slot = 0;
            for (int datum = list + 1; datum < end[list]; datum = end[datum]) {
                if (value[value[datum] == LIST ? datum + 1 : datum] == name) {
                    return slot;
                }
                slot++;
            }
            return -1;
        }
    }

    /** Keeps the text, and reads it as data behind those that are there. */
    private static final class Reader {
        private static final int MOST_TEXT = 3000;
        private static final int FEED = 20;

        private final Source source;
        private final byte[] text = new byte[MOST_TEXT];
        int length;
        /** The place of each datum of the program that was read last. */
        final int[] places = new int[MOST_PROGRAM];
        int fault;
        int faultPlace;
        private int stop;
        private int at;
        private int first;
        private int level;
        /** The lists that are open, and whether each is one of ' and so ends behind one datum. */
        private final int[] open = new int[MOST_DEPTH];
        private final boolean[] ticked = new boolean[MOST_DEPTH];

        Reader(Source source) {
            this.source = source;
        }

        boolean hasSpace() {
            return length + FEED <= MOST_TEXT;
        }

        void append(int four) {
            for (int shift = 24; shift >= 0 && length < MOST_TEXT; shift -= 8) {
                text[length] = (byte) (four >> shift);
                length++;
            }
        }

        void read(int n) {
            stop = Math.min(n, length);
            at = 0;
            first = source.size;
            level = 0;
            fault = NO_FAULT;
            faultPlace = NO_PLACE;
            for (int turn = 0; turn < stop && at < stop && fault == NO_FAULT; turn++) {
                readToken();
            }
            if (fault == NO_FAULT && level > 0) {
                fail(SYNTAX, stop);
            }
        }

        private void fail(int newFault, int newPlace) {
            fault = newFault;
            faultPlace = newPlace;
        }

        private void readToken() {
            int letter = text[at];
            if (letter == '\n' || letter == ' ') {
                at++;
            } else if (letter == ';') {
                skipComment();
            } else if (letter == '(') {
                openList(false);
            } else if (letter == '\'') {
                openList(true);
            } else if (letter == ')') {
                closeList();
            } else if (letter == '#') {
                readTruth();
            } else if (isLetter(at)) {
                readWord();
            } else {
                fail(SYNTAX, at);
            }
        }

        /** A comment ends at 10; a byte that may not stand in a text ends it, too, and is the next token's fault. */
        private void skipComment() {
            while (at < stop && text[at] >= ' ' && text[at] <= '~') {
                at++;
            }
        }

        private void openList(boolean tick) {
            if (level == MOST_DEPTH) {
                fail(ROOM, at);
            } else if (add(LIST, at)) {
                open[level] = source.size - 1;
                ticked[level] = tick;
                level++;
                if (tick) {
                    add(symbol(QUOTE), at);
                }
                at++;
            }
        }

        private void closeList() {
            if (level == 0 || ticked[level - 1]) {
                fail(SYNTAX, at);
                return;
            }
            level--;
            source.end[open[level]] = source.size;
            at++;
            closeTicks();
        }

        /** A datum has ended, and with it each list of ' that stood right ahead of it. */
        private void closeTicks() {
            while (level > 0 && ticked[level - 1]) {
                level--;
                source.end[open[level]] = source.size;
            }
        }

        private void readTruth() {
            boolean isTrue = at + 1 < stop && text[at + 1] == 't';
            if (at + 1 >= stop || !isTrue && text[at + 1] != 'f') {
                fail(SYNTAX, at + 1);
            } else if (isLetter(at + 2)) {
                fail(SYNTAX, at + 2);
            } else {
                addAtom(truth(isTrue), at + 2);
            }
        }

        private void readWord() {
            int end = at;
            while (end < stop && isLetter(end)) {
                end++;
            }
            boolean minus = text[at] == '-' && end - at > 1;
            if (isDigits(minus ? at + 1 : at, end)) {
                readNumber(minus, end);
            } else if (isDigit(at) || end - at > Source.MOST_LETTERS) {
                fail(SYNTAX, at);
            } else {
                readName(end);
            }
        }

        private void readNumber(boolean minus, int end) {
            long bound = minus ? -(long) Integer.MIN_VALUE : Integer.MAX_VALUE;
            long magnitude = 0;
            for (int i = minus ? at + 1 : at; i < end && magnitude <= bound; i++) {
                magnitude = magnitude * 10 + text[i] - '0';
            }
            if (magnitude > bound) {
                fail(SYNTAX, at);
            } else {
                addAtom(number((int) (minus ? -magnitude : magnitude)), end);
            }
        }

        /** A name becomes known only where its datum has room. */
        private void readName(int end) {
            int name = source.find(text, at, end);
            if (name < 0 && hasRoom()) {
                name = source.enter(text, at, end);
            }
            if (name < 0) {
                fail(ROOM, at);
            } else {
                addAtom(symbol(name), end);
            }
        }

        private void addAtom(long value, int end) {
            if (add(value, at)) {
                at = end;
                closeTicks();
            }
        }

        private boolean hasRoom() {
            return source.size - first < MOST_PROGRAM && source.size < Source.MOST_DATA;
        }

        private boolean add(long value, int place) {
            if (!hasRoom()) {
                fail(ROOM, place);
                return false;
            }
            int datum = source.size;
            places[datum - first] = place;
            source.value[datum] = value;
            source.depth[datum] = (byte) level;
            source.end[datum] = datum + 1;
            source.size++;
            return true;
        }

        private boolean isDigits(int from, int to) {
            for (int i = from; i < to; i++) {
                if (!isDigit(i)) {
                    return false;
                }
            }
            return true;
        }

        private boolean isDigit(int i) {
            return text[i] >= '0' && text[i] <= '9';
        }

        private boolean isLetter(int i) {
            if (i >= stop) {
                return false;
            }
            int letter = text[i];
            return letter >= 'a' && letter <= 'z' || isDigit(i) || letter == '!' || letter == '?'
                    || letter == '*' || letter == '+' || letter == '-' || letter == '/'
                    || letter == '<' || letter == '=' || letter == '>';
        }
    }

    /**
     * Looks whether data are expressions. Each datum is told ahead of time what it should be; as the rows have
     * each list ahead of what is in it, going through them once finds the fault that the document asks for.
     */
    private static final class Shape {
        /** What is quoted, and special names at their list's head: never told, and so not looked at. */
        private static final int ANYTHING = 0;
        private static final int EXPRESSION = 1;
        private static final int PROGRAM_DATUM = 2;
        private static final int ASSIGNED_NAME = 3;
        private static final int NAMES = 4;
        private static final int BOUND_NAME = 5;
        private static final int BINDINGS = 6;
        private static final int BINDING = 7;

        /** How many data a list of each form has, in the order of the special names, and CALL last. */
        private static final int[] LEAST = {2, 3, 3, 3, 3, 3, 2, 2, 1, 1, 1};
        private static final int[] MOST = {
            2, 4, 3, 3, MOST_PROGRAM, MOST_PROGRAM, MOST_PROGRAM, MOST_PROGRAM, MOST_PROGRAM, MOST_PROGRAM,
            MOST_BOUND + 1
        };

        private final Source source;
        private final int[] role = new int[MOST_PROGRAM];
        /** Of bindings and bound names: the brackets in which they are bound. */
        private final int[] brackets = new int[MOST_PROGRAM];
        private int first;

        Shape(Source source) {
            this.source = source;
        }

        /** The place of the first fault of the program that begins at this datum, or NO_PLACE. */
        int firstFault(int newFirst, int[] places) {
            first = newFirst;
            Arrays.fill(role, ANYTHING);
            for (int datum = first; datum < source.size; datum = source.end[datum]) {
                role[datum - first] = PROGRAM_DATUM;
            }
            for (int datum = first; datum < source.size; datum++) {
                if (!isAsTold(datum)) {
                    return places[datum - first];
                }
            }
            return NO_PLACE;
        }

        private boolean isAsTold(int datum) {
            boolean isList = source.value[datum] == LIST;
            switch (role[datum - first]) {
                case EXPRESSION:
                case PROGRAM_DATUM:
                    return isList ? isForm(datum) : !source.isSpecial(datum);
                case ASSIGNED_NAME:
                    return isFreeName(datum);
                case NAMES:
                    tellBrackets(datum, BOUND_NAME);
                    return isList;
                case BOUND_NAME:
                    return isFreeName(datum) && isNewName(datum);
                case BINDINGS:
                    tellBrackets(datum, BINDING);
                    return isList;
                case BINDING:
                    return isList && isBinding(datum);
                default:
                    return true;
            }
        }

        private boolean isForm(int list) {
            int elements = source.elements(list);
            if (elements == 0) {
                return false;
            }
            int form = source.form(list);
            if (elements < LEAST[form] || elements > MOST[form]) {
                return false;
            }
            if (form == DEFINE && role[list - first] != PROGRAM_DATUM) {
                return false;
            }
            if (form == CALL) {
                tellExpressions(list, list + 1);
            } else if (form == SET || form == DEFINE) {
                tellSecond(list, ASSIGNED_NAME);
            } else if (form == LAMBDA) {
                tellSecond(list, NAMES);
            } else if (form == LET) {
                tellSecond(list, BINDINGS);
            } else if (form != QUOTE) {
                tellExpressions(list, list + 2);
            }
            return true;
        }

        private void tellSecond(int list, int itsRole) {
            role[list + 2 - first] = itsRole;
            tellExpressions(list, source.end[list + 2]);
        }

        private void tellExpressions(int list, int from) {
            for (int datum = from; datum < source.end[list]; datum = source.end[datum]) {
                role[datum - first] = EXPRESSION;
            }
        }

        private void tellBrackets(int list, int itsRole) {
            for (int datum = list + 1; datum < source.end[list]; datum = source.end[datum]) {
                role[datum - first] = itsRole;
                brackets[datum - first] = list;
            }
        }

        private boolean isBinding(int list) {
            if (source.elements(list) != 2 || !source.isName(list + 1)) {
                return false;
            }
            role[list + 1 - first] = BOUND_NAME;
            brackets[list + 1 - first] = brackets[list - first];
            role[list + 2 - first] = EXPRESSION;
            return true;
        }

        private boolean isFreeName(int datum) {
            return source.isName(datum) && !source.isSpecial(datum);
        }

        /** Whether a name is not the ninth of its brackets, and not there already. */
        private boolean isNewName(int datum) {
            int list = brackets[datum - first];
            int slot = source.slot(list, source.value[datum]);
            int ahead = 0;
            for (int other = list + 1; source.end[other] <= datum; other = source.end[other]) {
                ahead++;
            }
            return slot == ahead && ahead < MOST_BOUND;
        }
    }

    /** The objects. A handle leads to an object's cells, which move together when others are gone. */
    private static final class Heap {
        final int limit;
        private final long[] cell;
        private final int[] start;
        final int[] kind;
        final int[] size;
        private final int[] identity;
        int used;
        int objects;
        /** The highest handle that was ever given. */
        int handles;
        /** The first handle that is free again; the start of each such leads to the next one. */
        private int free;
        int numbersGiven;
        /** An object did not fit: the step that wanted it is to be done again behind a collection. */
        boolean lacking;
        /** That collection has been, and nothing has been made since. */
        boolean collectedFor;

        Heap(int cells) {
            limit = cells;
            int most = cells / LEAST_OBJECT + 1;
            cell = new long[cells];
            start = new int[most];
            kind = new int[most];
            size = new int[most];
            identity = new int[most];
        }

        int make(int newKind, int cells) {
            if (cells > limit - used) {
                lacking = true;
                return NONE;
            }
            int handle = free;
            if (handle == NONE) {
                handles++;
                handle = handles;
            } else {
                free = start[handle];
            }
            start[handle] = used;
            kind[handle] = newKind;
            size[handle] = cells;
            identity[handle] = 0;
            cell[used] = handle;
            used += cells;
            objects++;
            collectedFor = false;
            return handle;
        }

        long get(int handle, int which) {
            return cell[start[handle] + which];
        }

        void put(int handle, int which, long value) {
            cell[start[handle] + which] = value;
        }

        boolean is(long value, int wanted) {
            return value >> HALF == OBJECT && kind[(int) value] == wanted;
        }

        int elements(int vector) {
            return size[vector] - VECTOR_CELLS;
        }

        int identityOf(int handle) {
            if (identity[handle] == 0) {
                numbersGiven++;
                identity[handle] = numbersGiven;
            }
            return identity[handle];
        }

        /** Lets all objects go that are not live, and moves the others together. */
        void keep(byte[] live) {
            int to = 0;
            int next = 0;
            for (int from = 0; from < used; from = next) {
                int handle = (int) cell[from];
                int cells = size[handle];
                next = from + cells;
                if (live[handle] == 0) {
                    kind[handle] = NONE;
                    start[handle] = free;
                    free = handle;
                    objects--;
                } else {
                    System.arraycopy(cell, from, cell, to, cells);
                    start[handle] = to;
                    to += cells;
                }
            }
            used = to;
        }
    }

    /** The registrations, and the queue of those whose object has died. */
    private static final class Finalizers {
        final long[] object = new long[MOST_FINALIZERS];
        final long[] procedure = new long[MOST_FINALIZERS];
        int registered;
        private final long[] deadObject = new long[MOST_FINALIZERS];
        private final long[] deadProcedure = new long[MOST_FINALIZERS];
        private int firstDead;
        int queued;

        boolean register(long newObject, long newProcedure) {
            if (registered + queued >= MOST_FINALIZERS) {
                return false;
            }
            object[registered] = newObject;
            procedure[registered] = newProcedure;
            registered++;
            return true;
        }

        /** The registrations of what is not live go to the queue, the others close up. */
        void release(byte[] live) {
            int staying = 0;
            for (int i = 0; i < registered; i++) {
                if (live[(int) object[i]] == 0) {
                    int last = (firstDead + queued) % MOST_FINALIZERS;
                    deadObject[last] = object[i];
                    deadProcedure[last] = procedure[i];
                    queued++;
                } else {
                    object[staying] = object[i];
                    procedure[staying] = procedure[i];
                    staying++;
                }
            }
            registered = staying;
        }

        long queuedObject(int i) {
            return deadObject[(firstDead + i) % MOST_FINALIZERS];
        }

        long queuedProcedure(int i) {
            return deadProcedure[(firstDead + i) % MOST_FINALIZERS];
        }

        void dropFirst() {
            firstDead = (firstDead + 1) % MOST_FINALIZERS;
            queued--;
        }
    }

    /** The forms that are not through, innermost last, with their frames and the values that they hold. */
    private static final class Held {
        /** 60 calls and the program, each with at most 30 forms in one another, a body, and a queue. */
        private static final int MOST_RECORDS = 2000;
        private static final int MOST_VALUES = MOST_BOUND + 1;

        /** The innermost record; record 0 is none. */
        int top;
        final int[] form = new int[MOST_RECORDS];
        final int[] datum = new int[MOST_RECORDS];
        /** The datum in it that is being evaluated, or the one ahead of the first. */
        final int[] at = new int[MOST_RECORDS];
        final int[] frame = new int[MOST_RECORDS];
        final int[] filled = new int[MOST_RECORDS];
        private final long[] values = new long[MOST_RECORDS * MOST_VALUES];
        /** What has been made of the lists around the datum that is being quoted, by their depth. */
        final long[] quoted = new long[MOST_DEPTH + 2];

        void clear() {
            top = 0;
            Arrays.fill(quoted, NIL);
        }

        boolean push(int newForm, int newDatum, int ahead, int newFrame) {
            if (top + 1 >= MOST_RECORDS) {
                return false;
            }
            top++;
            form[top] = newForm;
            datum[top] = newDatum;
            at[top] = ahead;
            frame[top] = newFrame;
            filled[top] = 0;
            return true;
        }

        void keep(int record, long value) {
            if (filled[record] < MOST_VALUES) {
                values[record * MOST_VALUES + filled[record]] = value;
                filled[record]++;
            }
        }

        long value(int record, int which) {
            return values[record * MOST_VALUES + which];
        }
    }

    /** Finds what is live, clears what refers to the dead, and lets them go. */
    private static final class Collector {
        private final Source source;
        private final Heap heap;
        private final Finalizers finalizers;
        private final Held held;
        private final long[] globals;
        int collections;
        private final byte[] live;
        /** The objects that were found live, in that order; all behind the one at hand are to be traced. */
        private final int[] found;
        private int founds;
        /**
         * Ephemerons, entries and registrations whose key is not live yet wait for it: the first one by the
         * key's handle, and the next one by the one ahead. The registrations come behind all handles.
         */
        private final int[] firstWaiting;
        private final int[] nextWaiting;
        private final int registrations;

        Collector(Source source, Heap heap, Finalizers finalizers, Held held, long[] globals) {
            this.source = source;
            this.heap = heap;
            this.finalizers = finalizers;
            this.held = held;
            this.globals = globals;
            registrations = heap.kind.length;
            live = new byte[registrations];
            found = new int[registrations];
            firstWaiting = new int[registrations];
            nextWaiting = new int[registrations + MOST_FINALIZERS];
        }

        void collect() {
            collections++;
            findLive();
            clearDead();
            int queuedBefore = finalizers.queued;
            finalizers.release(live);
            // Without a newcomer to the queue the roots are the same, and so is what is live.
            if (finalizers.queued > queuedBefore) {
                findLive();
            }
            heap.keep(live);
        }

        private void findLive() {
            Arrays.fill(live, (byte) 0);
            Arrays.fill(firstWaiting, NONE);
            founds = 0;
            markHeld();
            for (int name = 0; name < source.names; name++) {
                mark(globals[name]);
            }
            for (int i = 0; i < finalizers.queued; i++) {
                mark(finalizers.queuedObject(i));
                mark(finalizers.queuedProcedure(i));
            }
            for (int i = 0; i < finalizers.registered; i++) {
                if (isLive(finalizers.object[i])) {
                    mark(finalizers.procedure[i]);
                } else {
                    await(finalizers.object[i], registrations + i);
                }
            }
            // Tracing finds more, but each object once: the row is never longer than there are handles.
            for (int i = 0; i < founds && i < found.length; i++) {
                trace(found[i]);
                wake(found[i]);
            }
        }

        private void markHeld() {
            for (int record = 1; record <= held.top; record++) {
                markHandle(held.frame[record]);
                for (int i = 0; i < held.filled[record]; i++) {
                    mark(held.value(record, i));
                }
            }
            for (int i = 0; i < held.quoted.length; i++) {
                mark(held.quoted[i]);
            }
        }

        private void mark(long value) {
            if (value >> HALF == OBJECT) {
                markHandle((int) value);
            }
        }

        private void markHandle(int handle) {
            if (handle != NONE && live[handle] == 0) {
                live[handle] = 1;
                found[founds] = handle;
                founds++;
            }
        }

        private boolean isLive(long value) {
            return value >> HALF != OBJECT || live[(int) value] != 0;
        }

        private void await(long key, int waiting) {
            nextWaiting[waiting] = firstWaiting[(int) key];
            firstWaiting[(int) key] = waiting;
        }

        private void trace(int handle) {
            switch (heap.kind[handle]) {
                case PAIR:
                    mark(heap.get(handle, CAR));
                    mark(heap.get(handle, CDR));
                    break;
                case VECTOR:
                    markCells(handle, ELEMENTS, heap.elements(handle));
                    break;
                case PROCEDURE:
                    markHandle((int) heap.get(handle, MADE_IN));
                    break;
                case FRAME:
                    markHandle((int) heap.get(handle, AROUND));
                    markCells(handle, SLOTS, heap.size[handle] - FRAME_CELLS);
                    break;
                case TABLE:
                    traceTable(handle);
                    break;
                case ENTRY:
                    mark(heap.get(handle, VALUE));
                    break;
                case EPHEMERON:
                    if (isLive(heap.get(handle, KEY))) {
                        mark(heap.get(handle, VALUE));
                    } else {
                        await(heap.get(handle, KEY), handle);
                    }
                    break;
                default:
                    break;
            }
        }

        private void markCells(int handle, int from, int many) {
            for (int i = 0; i < many; i++) {
                mark(heap.get(handle, from + i));
            }
        }

        private void traceTable(int table) {
            int entry = (int) heap.get(table, FIRST_ENTRY);
            while (entry != NONE) {
                long key = heap.get(entry, KEY);
                if (isLive(key)) {
                    markHandle(entry);
                } else {
                    await(key, entry);
                }
                entry = (int) heap.get(entry, NEXT_ENTRY);
            }
        }

        /** An object is live: so are the values for which it is the key. */
        private void wake(int key) {
            for (int waiting = firstWaiting[key]; waiting != NONE; waiting = nextWaiting[waiting]) {
                if (waiting >= registrations) {
                    mark(finalizers.procedure[waiting - registrations]);
                } else if (heap.kind[waiting] == ENTRY) {
                    markHandle(waiting);
                } else {
                    mark(heap.get(waiting, VALUE));
                }
            }
        }

        /** What is not live itself is cleared, too, as the queue may bring it back. */
        private void clearDead() {
            for (int handle = 1; handle <= heap.handles; handle++) {
                int kind = heap.kind[handle];
                if (kind == TABLE) {
                    dropEntries(handle);
                } else if (kind == WEAK && !isLive(heap.get(handle, TARGET))) {
                    heap.put(handle, TARGET, FALSE);
                } else if (kind == EPHEMERON && !isLive(heap.get(handle, KEY))) {
                    heap.put(handle, KEY, FALSE);
                    heap.put(handle, VALUE, FALSE);
                }
            }
        }

        private void dropEntries(int table) {
            int last = NONE;
            int staying = 0;
            int entry = (int) heap.get(table, FIRST_ENTRY);
            heap.put(table, FIRST_ENTRY, NONE);
            while (entry != NONE) {
                int next = (int) heap.get(entry, NEXT_ENTRY);
                if (isLive(heap.get(entry, KEY))) {
                    if (last == NONE) {
                        heap.put(table, FIRST_ENTRY, entry);
                    } else {
                        heap.put(last, NEXT_ENTRY, entry);
                    }
                    heap.put(entry, NEXT_ENTRY, NONE);
                    last = entry;
                    staying++;
                }
                entry = next;
            }
            heap.put(table, ENTRIES, staying);
        }
    }

    /** What the primitives do with operands whose number is right. */
    private static final class Operations {
        private static final int MOST_ELEMENTS = 100;

        private final Source source;
        private final Heap heap;
        private final Finalizers finalizers;
        private final Output output;
        int fault;
        /** The primitive gc has been called: a collection is due, and then the queue. */
        boolean gcAsked;

        Operations(Source source, Heap heap, Finalizers finalizers, Output output) {
            this.source = source;
            this.heap = heap;
            this.finalizers = finalizers;
            this.output = output;
        }

        boolean isOfSort(long value, char sort) {
            switch (sort) {
                case 'n':
                    return value >> HALF == NUMBER;
                case 'p':
                    return heap.is(value, PAIR);
                case 'v':
                    return heap.is(value, VECTOR);
                case 'w':
                    return heap.is(value, WEAK);
                case 'e':
                    return heap.is(value, EPHEMERON);
                case 't':
                    return heap.is(value, TABLE);
                case 'o':
                    return value >> HALF == OBJECT;
                case 'f':
                    return heap.is(value, PROCEDURE) && namesOf((int) value) == 1;
                default:
                    return true;
            }
        }

        int namesOf(int procedure) {
            return source.elements((int) heap.get(procedure, LAMBDA_DATUM) + 2);
        }

        /** The value, unless there is a fault, the heap is lacking, or gc was asked for. */
        long operate(Primitive primitive, long a, long b, long c) {
            int object = (int) a;
            switch (primitive) {
                case ADD:
                    return number((int) a + (int) b);
                case SUBTRACT:
                    return number((int) a - (int) b);
                case MULTIPLY:
                    return number((int) a * (int) b);
                case QUOTIENT:
                case REMAINDER:
                    return divide(primitive, (int) a, (int) b);
                case EQUAL:
                case SAME:
                    return truth(a == b);
                case LESS:
                    return truth((int) a < (int) b);
                case NOT:
                    return truth(a == FALSE);
                case IS_NULL:
                    return truth(a == NIL);
                case IS_PAIR:
                    return truth(heap.is(a, PAIR));
                case HASH:
                    return number(a >> HALF == OBJECT ? heap.identityOf(object) : 0);
                case CELLS:
                    return number(heap.used);
                case GC:
                    gcAsked = true;
                    return NIL;
                case PRINT:
                    output.print(a);
                    return NIL;
                case FINALIZE:
                    fault = finalizers.register(a, b) ? NO_FAULT : RANGE;
                    return NIL;
                default:
                    return operateOnObject(primitive, a, b, c);
            }
        }

        private long divide(Primitive primitive, int a, int b) {
            if (b == 0) {
                fault = DIVIDE;
                return NIL;
            }
            return number(primitive == Primitive.QUOTIENT ? a / b : a % b);
        }

        private long operateOnObject(Primitive primitive, long a, long b, long c) {
            int object = (int) a;
            switch (primitive) {
                case CONS:
                    return makeTwo(PAIR, PAIR_CELLS, a, b);
                case GET_CAR:
                    return heap.get(object, CAR);
                case GET_CDR:
                    return heap.get(object, CDR);
                case SET_CAR:
                    heap.put(object, CAR, b);
                    return NIL;
                case SET_CDR:
                    heap.put(object, CDR, b);
                    return NIL;
                case MAKE_VECTOR:
                    return makeVector((int) a, b);
                case VECTOR_GET:
                    return isPlace(object, (int) b) ? heap.get(object, ELEMENTS + (int) b) : NIL;
                case VECTOR_PUT:
                    if (isPlace(object, (int) b)) {
                        heap.put(object, ELEMENTS + (int) b, c);
                    }
                    return NIL;
                case VECTOR_SIZE:
                    return number(heap.elements(object));
                case MAKE_WEAK:
                    return makeWeak(a);
                case WEAK_GET:
                    return heap.get(object, TARGET);
                case MAKE_EPHEMERON:
                    return makeTwo(EPHEMERON, EPHEMERON_CELLS, a, b);
                case EPHEMERON_KEY:
                    return heap.get(object, KEY);
                case EPHEMERON_VALUE:
                    return heap.get(object, VALUE);
                case MAKE_TABLE:
                    return makeTable();
                case TABLE_PUT:
                    putInTable(object, b, c);
                    return NIL;
                case TABLE_GET:
                    int entry = findEntry(object, b);
                    return entry == NONE ? FALSE : heap.get(entry, VALUE);
                case TABLE_SIZE:
                    return number((int) heap.get(object, ENTRIES));
                default:
                    return NIL;
            }
        }

        /** A pair or an ephemeron, which both have two values, and have them in the same cells. */
        private long makeTwo(int kind, int cells, long a, long b) {
            int made = heap.make(kind, cells);
            if (made != NONE) {
                heap.put(made, CAR, a);
                heap.put(made, CDR, b);
            }
            return object(made);
        }

        private long makeVector(int elements, long value) {
            if (elements < 0 || elements > MOST_ELEMENTS) {
                fault = RANGE;
                return NIL;
            }
            int made = heap.make(VECTOR, VECTOR_CELLS + elements);
            for (int i = 0; i < elements && made != NONE; i++) {
                heap.put(made, ELEMENTS + i, value);
            }
            return object(made);
        }

        private boolean isPlace(int vector, int place) {
            boolean inside = place >= 0 && place < heap.elements(vector);
            fault = inside ? NO_FAULT : RANGE;
            return inside;
        }

        private long makeWeak(long value) {
            int made = heap.make(WEAK, WEAK_CELLS);
            if (made != NONE) {
                heap.put(made, TARGET, value);
            }
            return object(made);
        }

        private long makeTable() {
            int made = heap.make(TABLE, TABLE_CELLS);
            if (made != NONE) {
                heap.put(made, FIRST_ENTRY, NONE);
                heap.put(made, ENTRIES, 0);
            }
            return object(made);
        }

        private int findEntry(int table, long key) {
            int entry = (int) heap.get(table, FIRST_ENTRY);
            while (entry != NONE && heap.get(entry, KEY) != key) {
                entry = (int) heap.get(entry, NEXT_ENTRY);
            }
            return entry;
        }

        private void putInTable(int table, long key, long value) {
            int entry = findEntry(table, key);
            if (entry == NONE) {
                entry = heap.make(ENTRY, ENTRY_CELLS);
                if (entry == NONE) {
                    return;
                }
                heap.put(entry, KEY, key);
                heap.put(entry, NEXT_ENTRY, heap.get(table, FIRST_ENTRY));
                heap.put(table, FIRST_ENTRY, entry);
                heap.put(table, ENTRIES, heap.get(table, ENTRIES) + 1);
            }
            heap.put(entry, VALUE, value);
        }
    }

    /** Evaluates programs, a step at a time. */
    private static final class Machine {
        private static final int MOST_CALLS = 60;
        private static final int COLLECTION_FUEL = 100;
        /** Far above what the fuel allows: each step evaluates, ends a form, calls from the queue or collects. */
        private static final int MOST_STEPS = 1000000;

        private final Source source;
        private final Heap heap;
        private final Finalizers finalizers;
        private final Held held;
        private final long[] globals;
        private final Operations operations;
        private final Collector collector;
        int fuel;
        int fault;
        /** The value of what was evaluated last; nothing holds it. */
        private long value;
        /** How many calls of procedures stand in one another. */
        private int calls;

        Machine(Source source, Heap heap, Finalizers finalizers, Held held, long[] globals,
                Operations operations, Collector collector) {
            this.source = source;
            this.heap = heap;
            this.finalizers = finalizers;
            this.held = held;
            this.globals = globals;
            this.operations = operations;
            this.collector = collector;
        }

        void execute(int first, int last, int newFuel) {
            prepare(newFuel);
            int next = first;
            boolean queueIsDue = false;
            for (int step = 0; step < MOST_STEPS && fault == NO_FAULT; step++) {
                if (held.top > 0 && isPrimitiveDue(held.top)) {
                    operate(held.top);
                } else if (held.top > 0) {
                    resume(held.top);
                } else if (queueIsDue) {
                    begin(QUEUE, next, next, NONE);
                    queueIsDue = false;
                } else if (next < last) {
                    evaluate(next, NONE);
                    next = source.end[next];
                    queueIsDue = true;
                } else {
                    return;
                }
                if (payForCollection()) {
                    collector.collect();
                }
            }
        }

        private void prepare(int newFuel) {
            fuel = newFuel;
            fault = NO_FAULT;
            calls = 0;
            held.clear();
            heap.lacking = false;
            heap.collectedFor = false;
            operations.fault = NO_FAULT;
            operations.gcAsked = false;
        }

        /** Takes the fuel of a collection, if one is due and may be; otherwise the fault, if one is due. */
        private boolean payForCollection() {
            if (fault != NO_FAULT || !heap.lacking && !operations.gcAsked) {
                return false;
            }
            if (heap.lacking && heap.collectedFor) {
                fault = MEMORY;
                return false;
            }
            if (fuel < COLLECTION_FUEL) {
                fault = FUEL;
                return false;
            }
            fuel -= COLLECTION_FUEL;
            heap.collectedFor = heap.lacking;
            heap.lacking = false;
            operations.gcAsked = false;
            return true;
        }

        private void begin(int form, int datum, int ahead, int frame) {
            if (!held.push(form, datum, ahead, frame)) {
                fault = DEEP;
            }
        }

        /** Begins to evaluate: what is no list has its value at once, a list becomes a record. */
        private void evaluate(int datum, int frame) {
            if (fuel == 0) {
                fault = FUEL;
                return;
            }
            fuel--;
            if (source.value[datum] == LIST) {
                int form = source.form(datum);
                begin(form, datum, aheadOfFirst(form, datum), frame);
            } else if (source.isName(datum)) {
                int found = find(datum, frame);
                value = found >= 0
                        ? heap.get(found / MOST_BOUND, SLOTS + found % MOST_BOUND)
                        : globals[(int) source.value[datum]];
                fault = value == NO_VALUE ? UNBOUND : NO_FAULT;
            } else {
                value = source.value[datum];
            }
        }

        private int aheadOfFirst(int form, int list) {
            switch (form) {
                case CALL:
                    return list;
                case LET:
                    return list + 2;
                case QUOTE:
                    return source.end[list];
                default:
                    return list + 1;
            }
        }

        /** The innermost frame that has this name, and which of its values it is, in one number; -1 if none. */
        private int find(int datum, int frame) {
            for (int f = frame; f != NONE; f = (int) heap.get(f, AROUND)) {
                int slot = source.slot((int) heap.get(f, NAMES_DATUM), source.value[datum]);
                if (slot >= 0) {
                    return f * MOST_BOUND + slot;
                }
            }
            return -1;
        }

        private void resume(int record) {
            int list = held.datum[record];
            switch (held.form[record]) {
                case QUOTE:
                    quote(record);
                    break;
                case IF:
                    choose(record);
                    break;
                case SET:
                case DEFINE:
                    assign(record);
                    break;
                case LAMBDA:
                    makeProcedure(record);
                    break;
                case LET:
                    gather(record, list + 2, 2, LET_FRAME);
                    break;
                case LET_FRAME:
                    openScope(record);
                    break;
                case WHILE:
                    repeat(record);
                    break;
                case AND:
                case OR:
                    connect(record);
                    break;
                case CALL:
                    gather(record, list, 0, APPLY);
                    break;
                case APPLY:
                    call(record);
                    break;
                case QUEUE:
                    callFromQueue(record);
                    break;
                case BEGIN:
                case BODY:
                    proceed(record);
                    break;
                default:
                    end();
                    break;
            }
        }

        private void evaluateIn(int record, int datum) {
            held.at[record] = datum;
            evaluate(datum, held.frame[record]);
        }

        private void end() {
            held.top--;
        }

        private void endWith(long result) {
            value = result;
            held.top--;
        }

        /** The next expression of a begin, or of the body of a let or procedure; the last one gives the value. */
        private void proceed(int record) {
            int next = source.end[held.at[record]];
            if (next < source.end[held.datum[record]]) {
                evaluateIn(record, next);
                return;
            }
            if (held.form[record] == BODY) {
                calls--;
            }
            end();
        }

        private void choose(int record) {
            int list = held.datum[record];
            int at = held.at[record];
            int next = source.end[at];
            if (at == list + 2 && value == FALSE) {
                next = source.end[next];
            }
            if (at > list + 2) {
                end();
            } else if (next < source.end[list]) {
                evaluateIn(record, next);
            } else {
                endWith(NIL);
            }
        }

        private void assign(int record) {
            int list = held.datum[record];
            if (held.at[record] == list + 1) {
                evaluateIn(record, list + 3);
                return;
            }
            int name = (int) source.value[list + 2];
            int found = find(list + 2, held.frame[record]);
            if (found >= 0) {
                heap.put(found / MOST_BOUND, SLOTS + found % MOST_BOUND, value);
            } else if (held.form[record] == DEFINE || globals[name] != NO_VALUE) {
                globals[name] = value;
            } else {
                fault = UNBOUND;
            }
            endWith(NIL);
        }

        private void repeat(int record) {
            int list = held.datum[record];
            int at = held.at[record];
            if (at == list + 2 && value == FALSE) {
                endWith(NIL);
                return;
            }
            int next = source.end[at];
            evaluateIn(record, next < source.end[list] ? next : list + 2);
        }

        private void connect(int record) {
            int list = held.datum[record];
            int at = held.at[record];
            boolean isAnd = held.form[record] == AND;
            if (at == list + 1) {
                value = truth(isAnd);
            }
            int next = source.end[at];
            if (next < source.end[list] && isAnd == (value != FALSE)) {
                evaluateIn(record, next);
            } else {
                end();
            }
        }

        private void makeProcedure(int record) {
            int made = heap.make(PROCEDURE, PROCEDURE_CELLS);
            if (made != NONE) {
                heap.put(made, LAMBDA_DATUM, held.datum[record]);
                heap.put(made, MADE_IN, held.frame[record]);
                endWith(object(made));
            }
        }

        /** Goes through the rows from behind, which is the order in which lists are to be made. */
        private void quote(int record) {
            int quoted = held.datum[record] + 2;
            for (int datum = held.at[record] - 1; datum > quoted; datum--) {
                makeElement(datum, source.depth[datum] - source.depth[quoted]);
                if (heap.lacking) {
                    return;
                }
                held.at[record] = datum;
            }
            endWith(takeQuoted(quoted, 1));
        }

        private void makeElement(int datum, int level) {
            int made = heap.make(PAIR, PAIR_CELLS);
            if (made != NONE) {
                heap.put(made, CDR, held.quoted[level]);
                heap.put(made, CAR, takeQuoted(datum, level + 1));
                held.quoted[level] = object(made);
            }
        }

        /** The value of a datum that is quoted; of a list, all pairs are made already. */
        private long takeQuoted(int datum, int levelInside) {
            if (source.value[datum] != LIST) {
                return source.value[datum];
            }
            long made = held.quoted[levelInside];
            held.quoted[levelInside] = NIL;
            return made;
        }

        /** Evaluates, one after the other, what a call or let needs ahead of its frame, and keeps the values. */
        private void gather(int record, int list, int offset, int formBehind) {
            int at = held.at[record];
            int next = list + 1;
            if (at != list) {
                held.keep(record, value);
                next = source.end[at];
            }
            held.at[record] = next;
            if (next < source.end[list]) {
                evaluate(next + offset, held.frame[record]);
            } else {
                held.form[record] = formBehind;
            }
        }

        private void openScope(int record) {
            int names = held.datum[record] + 2;
            int made = makeFrame(record, 0, names, held.frame[record]);
            if (made != NONE) {
                held.filled[record] = 0;
                held.frame[record] = made;
                held.form[record] = BEGIN;
                held.at[record] = names;
            }
        }

        private int makeFrame(int record, int firstValue, int names, int around) {
            int slots = held.filled[record] - firstValue;
            int made = heap.make(FRAME, FRAME_CELLS + slots);
            if (made != NONE) {
                heap.put(made, NAMES_DATUM, names);
                heap.put(made, AROUND, around);
                for (int i = 0; i < slots; i++) {
                    heap.put(made, SLOTS + i, held.value(record, firstValue + i));
                }
            }
            return made;
        }

        private boolean isPrimitiveDue(int record) {
            return held.form[record] == APPLY && held.value(record, 0) >> HALF == PRIMITIVE;
        }

        private void operate(int record) {
            Primitive primitive = PRIMITIVES[(int) held.value(record, 0)];
            int operands = held.filled[record] - 1;
            if (primitive.sorts.length() != operands) {
                fault = OPERANDS;
                return;
            }
            for (int i = 0; i < operands; i++) {
                if (!operations.isOfSort(held.value(record, i + 1), primitive.sorts.charAt(i))) {
                    fault = TYPE;
                    return;
                }
            }
            long result = operations.operate(primitive, held.value(record, 1), held.value(record, 2),
                    held.value(record, 3));
            fault = operations.fault;
            if (operations.gcAsked) {
                held.filled[record] = 0;
                held.form[record] = QUEUE;
            } else if (fault == NO_FAULT && !heap.lacking) {
                endWith(result);
            }
        }

        private void call(int record) {
            long called = held.value(record, 0);
            if (!heap.is(called, PROCEDURE)) {
                fault = NO_PROCEDURE;
            } else if (operations.namesOf((int) called) != held.filled[record] - 1) {
                fault = OPERANDS;
            } else {
                enter(record);
            }
        }

        /** Calls the procedure that a record holds, with the values that it holds behind. */
        private void enter(int record) {
            if (calls == MOST_CALLS) {
                fault = DEEP;
                return;
            }
            int procedure = (int) held.value(record, 0);
            int lambda = (int) heap.get(procedure, LAMBDA_DATUM);
            int made = makeFrame(record, 1, lambda + 2, (int) heap.get(procedure, MADE_IN));
            if (made == NONE) {
                return;
            }
            calls++;
            held.filled[record] = 0;
            if (held.form[record] == APPLY) {
                held.form[record] = CALLED;
            }
            begin(BODY, lambda, lambda + 2, made);
        }

        private void callFromQueue(int record) {
            if (held.filled[record] == 0) {
                if (finalizers.queued == 0) {
                    endWith(NIL);
                    return;
                }
                held.keep(record, finalizers.queuedProcedure(0));
                held.keep(record, finalizers.queuedObject(0));
                finalizers.dropFirst();
            }
            enter(record);
        }
    }

    /** Writes values, and keeps the bytes until they are fetched. */
    private static final class Output {
        private static final int MOST_WAITING = 4000;
        private static final int MOST_PARTS = 40;
        private static final int MOST_BRACKETS = 10;
        private static final int MOST_FETCHED = 7;
        private static final int MOST_DIGITS = 10;

        private final Source source;
        private final Heap heap;
        private final byte[] bytes = new byte[MOST_WAITING];
        private int firstByte;
        int waiting;
        /** How many parts of the value have been written, and whether one more would have stood there. */
        private int parts;
        private boolean isCut;
        private final byte[] digits = new byte[MOST_DIGITS];

        Output(Source source, Heap heap) {
            this.source = source;
            this.heap = heap;
        }

        long take() {
            int many = Math.min(waiting, MOST_FETCHED);
            long taken = many;
            for (int i = 0; i < MOST_FETCHED; i++) {
                taken <<= 8;
                if (i < many) {
                    taken |= bytes[(firstByte + i) % MOST_WAITING];
                }
            }
            firstByte = (firstByte + many) % MOST_WAITING;
            waiting -= many;
            return taken;
        }

        void print(long value) {
            parts = 0;
            isCut = false;
            write(value, 0);
            add('\n');
        }

        private void add(int letter) {
            if (waiting < MOST_WAITING) {
                bytes[(firstByte + waiting) % MOST_WAITING] = (byte) letter;
                waiting++;
            }
        }

        private void write(long value, int brackets) {
            boolean isPair = heap.is(value, PAIR);
            if (isPair && brackets < MOST_BRACKETS) {
                add('(');
                write(heap.get((int) value, CAR), brackets + 1);
                long rest = heap.get((int) value, CDR);
                // Each turn writes a part at least, so that a list which is a ring has an end, too.
                for (int turn = 0; turn <= MOST_PARTS && !isCut && heap.is(rest, PAIR); turn++) {
                    add(' ');
                    write(heap.get((int) rest, CAR), brackets + 1);
                    rest = heap.get((int) rest, CDR);
                }
                if (!isCut && rest != NIL) {
                    writeWord(" . ");
                    write(rest, brackets + 1);
                }
                add(')');
                return;
            }
            isCut = parts == MOST_PARTS;
            parts++;
            if (isCut || isPair) {
                writeWord("...");
            } else if (value >> HALF == NUMBER) {
                writeNumber((int) value);
            } else if (value >> HALF == SYMBOL) {
                writeName((int) value);
            } else {
                writeWord(wordFor(value));
            }
        }

        private void writeWord(String word) {
            for (int i = 0; i < word.length(); i++) {
                add(word.charAt(i));
            }
        }

        private void writeName(int name) {
            for (int i = 0; i < source.lengths[name]; i++) {
                add(source.letters[name * Source.MOST_LETTERS + i]);
            }
        }

        private void writeNumber(int n) {
            if (n < 0) {
                add('-');
            }
            // Of numbers below 0 the remainders are so, too; the least one has no opposite.
            int first = MOST_DIGITS;
            int rest = n;
            do {
                first--;
                int digit = rest % 10;
                digits[first] = (byte) ('0' + (digit < 0 ? -digit : digit));
                rest /= 10;
            } while (rest != 0 && first > 0);
            for (int i = first; i < MOST_DIGITS; i++) {
                add(digits[i]);
            }
        }

        private String wordFor(long value) {
            if (value == TRUE) {
                return "#t";
            }
            if (value == FALSE) {
                return "#f";
            }
            if (value == NIL) {
                return "()";
            }
            switch (value >> HALF == OBJECT ? heap.kind[(int) value] : PROCEDURE) {
                case VECTOR:
                    return "#<vector>";
                case WEAK:
                    return "#<weak>";
                case EPHEMERON:
                    return "#<ephemeron>";
                case TABLE:
                    return "#<table>";
                default:
                    return "#<procedure>";
            }
        }
    }
}
