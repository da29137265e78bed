import java.util.ArrayDeque;
import java.util.ArrayList;
import java.util.Arrays;
import java.util.Collections;
import java.util.HashMap;
import java.util.HashSet;
import java.util.IdentityHashMap;
import java.util.LinkedHashMap;
import java.util.List;
import java.util.Map;
import java.util.Set;

/**
 * The document once more, written the plainest way and without regard to room or speed: recursion, objects of
 * Java, and liveness as a set that grows until it grows no more. ModelTest holds the program against it.
 */
final class Model {
    static final class Fault extends RuntimeException {
        private static final long serialVersionUID = 1;

        final int code;
        final int place;

        Fault(int code, int place) {
            super(null, null, false, false);
            this.code = code;
            this.place = place;
        }

        Fault(int code) {
            this(code, -1);
        }
    }

    record Name(String word) { }

    record Primitive(String word) { }

    enum Nil { NIL }

    /** A list as it was read; other data are read as the values that they are. */
    record Datum(Object atom, List<Datum> list, int place) {
        boolean isName() {
            return atom instanceof Name;
        }

        String word() {
            return isName() ? ((Name) atom).word() : "";
        }
    }

    static class Thing {
        final String kind;
        final Object[] parts;
        Datum code;
        Map<String, Integer> slots;
        Map<Object, Thing> entries;
        boolean broken;
        int number;

        Thing(String kind, int parts) {
            this.kind = kind;
            this.parts = new Object[parts];
        }

        int cells() {
            switch (kind) {
                case "vector":
                    return 3 + parts.length;
                case "frame":
                    return 2 + parts.length;
                case "weak":
                case "table":
                    return 3;
                case "entry":
                    return 5;
                default:
                    return 4;
            }
        }
    }

    private static final Set<String> SPECIAL = new HashSet<>(Arrays.asList(
            "quote", "if", "set!", "define", "lambda", "let", "begin", "while", "and", "or"));
    private static final Map<String, Integer> TAKES = new HashMap<>();

    static {
        String[] words = ("+ 2 - 2 * 2 quotient 2 remainder 2 = 2 < 2 eq? 2 not 1 null? 1 pair? 1 cons 2 car 1 cdr 1 "
                + "set-car! 2 set-cdr! 2 vector 2 vector-get 2 vector-put! 3 vector-size 1 weak 1 weak-get 1 "
                + "ephemeron 2 ephemeron-key 1 ephemeron-value 1 table 0 table-put! 3 table-get 2 table-size 1 "
                + "finalize! 2 hash 1 gc 0 cells 0 print 1").split(" ");
        for (int i = 0; i < words.length; i += 2) {
            TAKES.put(words[i], Integer.parseInt(words[i + 1]));
        }
    }

    private final int limit;
    private final StringBuilder text = new StringBuilder();
    private final StringBuilder output = new StringBuilder();
    private final Set<String> known = new HashSet<>();
    private int dataInAll;
    private final Map<String, Object> globals = new HashMap<>();
    private List<Thing> heap = new ArrayList<>();
    private List<Object[]> registrations = new ArrayList<>();
    private final ArrayDeque<Object[]> queue = new ArrayDeque<>();
    private final List<Object> held = new ArrayList<>();
    private int collections;
    private int numbers;
    private int fuel;
    private int calls;
    private int place = -1;

    Model(int cells) {
        limit = cells >= 100 && cells <= 20000 ? cells : 2000;
        for (String word : TAKES.keySet()) {
            globals.put(word, new Primitive(word));
        }
    }

    boolean feed(int... fours) {
        if (text.length() + 20 > 3000) {
            return false;
        }
        for (int four : fours) {
            for (int shift = 24; shift >= 0; shift -= 8) {
                text.append((char) (four >>> shift & 255));
            }
        }
        return true;
    }

    int run(int n, int newFuel) {
        if (n < 0 || n > text.length() || newFuel < 0 || newFuel > 20000) {
            return -1;
        }
        String program = text.substring(0, n);
        text.setLength(0);
        place = -1;
        fuel = newFuel;
        held.clear();
        calls = 0;
        try {
            runData(new Parser(program).program());
            return 0;
        } catch (Fault fault) {
            place = fault.place;
            return fault.code;
        }
    }

    int place() {
        return place;
    }

    long fetch() {
        int many = Math.min(7, output.length());
        long result = many;
        for (int i = 0; i < 7; i++) {
            result = result << 8 | (i < many ? output.charAt(i) : 0);
        }
        output.delete(0, many);
        return result;
    }

    int count(int what) {
        int[] all = {used(), heap.size(), collections, queue.size(), registrations.size(), text.length(),
            output.length(), fuel, numbers};
        return what >= 0 && what < all.length ? all[what] : -1;
    }

    private final class Parser {
        private final String s;
        private int i;
        private int data;

        Parser(String s) {
            this.s = s;
        }

        List<Datum> program() {
            List<Datum> all = new ArrayList<>();
            for (skip(); i < s.length(); skip()) {
                all.add(datum(0));
            }
            for (Datum datum : all) {
                top(datum);
            }
            dataInAll += data;
            return all;
        }

        private void skip() {
            while (i < s.length() && " \n;".indexOf(s.charAt(i)) >= 0) {
                if (s.charAt(i) == ';') {
                    for (i++; i < s.length() && s.charAt(i) != '\n'; i++) {
                        if (s.charAt(i) < 32 || s.charAt(i) > 126) {
                            throw new Fault(1, i);
                        }
                    }
                } else {
                    i++;
                }
            }
        }

        private void room(int from) {
            data++;
            if (data > 2000 || dataInAll + data > 20000) {
                throw new Fault(2, from);
            }
        }

        private Datum datum(int depth) {
            skip();
            int from = i;
            if (i == s.length()) {
                throw new Fault(1, i);
            }
            char c = s.charAt(i);
            if (c == '(' || c == '\'') {
                if (depth == 30) {
                    throw new Fault(2, from);
                }
                room(from);
                i++;
                return c == '(' ? list(from, depth) : tick(from, depth);
            }
            if (c == '#') {
                return truth(from);
            }
            if (!letter(i)) {
                throw new Fault(1, from);
            }
            while (letter(i)) {
                i++;
            }
            return word(s.substring(from, i), from);
        }

        private Datum list(int from, int depth) {
            List<Datum> list = new ArrayList<>();
            for (skip(); i >= s.length() || s.charAt(i) != ')'; skip()) {
                list.add(datum(depth + 1));
            }
            i++;
            return new Datum(null, list, from);
        }

        private Datum tick(int from, int depth) {
            room(from);
            return new Datum(null, List.of(new Datum(new Name("quote"), null, from), datum(depth + 1)), from);
        }

        private Datum truth(int from) {
            if (i + 1 >= s.length() || "tf".indexOf(s.charAt(i + 1)) < 0) {
                throw new Fault(1, i + 1);
            }
            if (letter(i + 2)) {
                throw new Fault(1, i + 2);
            }
            room(from);
            i += 2;
            return new Datum(s.charAt(i - 1) == 't', null, from);
        }

        private Datum word(String word, int from) {
            if (word.matches("-?[0-9]+")) {
                java.math.BigInteger n = new java.math.BigInteger(word);
                if (n.bitLength() > 31) {
                    throw new Fault(1, from);
                }
                room(from);
                return new Datum(n.intValue(), null, from);
            }
            if (word.length() > 20 || Character.isDigit(word.charAt(0))) {
                throw new Fault(1, from);
            }
            room(from);
            if (!SPECIAL.contains(word) && !TAKES.containsKey(word) && !known.contains(word)) {
                if (known.size() == 400) {
                    throw new Fault(2, from);
                }
                known.add(word);
            }
            return new Datum(new Name(word), null, from);
        }

        private boolean letter(int at) {
            return at < s.length() && "abcdefghijklmnopqrstuvwxyz0123456789!?*+-/<=>".indexOf(s.charAt(at)) >= 0;
        }
    }

    private static void shape(boolean holds, Datum at) {
        if (!holds) {
            throw new Fault(3, at.place());
        }
    }

    private static void top(Datum datum) {
        if (datum.list() != null && !datum.list().isEmpty() && datum.list().get(0).word().equals("define")) {
            shape(datum.list().size() == 3, datum);
            ownName(datum.list().get(1), new HashSet<>());
            expression(datum.list().get(2));
        } else {
            expression(datum);
        }
    }

    private static void ownName(Datum name, Set<String> others) {
        shape(name.isName() && !SPECIAL.contains(name.word()) && others.size() < 8 && others.add(name.word()), name);
    }

    private static void expressions(Datum form, int from) {
        for (Datum datum : form.list().subList(from, form.list().size())) {
            expression(datum);
        }
    }

    private static void expression(Datum datum) {
        if (datum.list() == null) {
            shape(!SPECIAL.contains(datum.word()), datum);
            return;
        }
        shape(!datum.list().isEmpty(), datum);
        int size = datum.list().size();
        String head = datum.list().get(0).word();
        switch (head) {
            case "quote":
                shape(size == 2, datum);
                break;
            case "if":
                shape(size == 3 || size == 4, datum);
                expressions(datum, 1);
                break;
            case "set!":
                shape(size == 3, datum);
                ownName(datum.list().get(1), new HashSet<>());
                expressions(datum, 2);
                break;
            case "define":
                shape(false, datum);
                break;
            case "lambda":
                shape(size >= 3, datum);
                lambdaNames(datum.list().get(1));
                expressions(datum, 2);
                break;
            case "let":
                shape(size >= 3, datum);
                bindings(datum.list().get(1));
                expressions(datum, 2);
                break;
            case "begin":
            case "while":
                shape(size >= 2, datum);
                expressions(datum, 1);
                break;
            case "and":
            case "or":
                expressions(datum, 1);
                break;
            default:
                shape(size <= 9, datum);
                expressions(datum, 0);
                break;
        }
    }

    private static void lambdaNames(Datum names) {
        shape(names.list() != null, names);
        Set<String> others = new HashSet<>();
        for (Datum name : names.list()) {
            ownName(name, others);
        }
    }

    private static void bindings(Datum bindings) {
        shape(bindings.list() != null, bindings);
        Set<String> others = new HashSet<>();
        for (Datum binding : bindings.list()) {
            shape(binding.list() != null && binding.list().size() == 2 && binding.list().get(0).isName(), binding);
            ownName(binding.list().get(0), others);
            expression(binding.list().get(1));
        }
    }

    private void runData(List<Datum> data) {
        for (Datum datum : data) {
            eval(datum, null);
            callQueue();
        }
    }

    private void callQueue() {
        while (!queue.isEmpty()) {
            Object[] first = queue.removeFirst();
            call((Thing) first[1], new ArrayList<>(List.of(first[1], first[0])));
        }
    }

    private Object eval(Datum datum, Thing frame) {
        if (fuel == 0) {
            throw new Fault(4);
        }
        fuel--;
        if (datum.isName()) {
            Object[] place = find(datum.word(), frame);
            Object value = place == null ? globals.get(datum.word()) : place[0];
            if (value == null) {
                throw new Fault(5);
            }
            return value;
        }
        if (datum.list() == null) {
            return datum.atom();
        }
        int mark = held.size();
        held.add(frame);
        Object value = form(datum.list(), frame);
        drop(mark);
        return value;
    }

    private void drop(int mark) {
        while (held.size() > mark) {
            held.remove(held.size() - 1);
        }
    }

    /** The value of a name in the frames, with the frame and the place in it; null if none has it. */
    private Object[] find(String word, Thing frame) {
        for (Thing f = frame; f != null; f = (Thing) f.parts[0]) {
            if (f.slots.containsKey(word)) {
                int slot = f.slots.get(word);
                return new Object[] {f.parts[slot], f, slot};
            }
        }
        return null;
    }

    private Object form(List<Datum> list, Thing frame) {
        switch (list.get(0).word()) {
            case "quote":
                return quoted(list.get(1));
            case "if":
                if (eval(list.get(1), frame) != Boolean.FALSE) {
                    return eval(list.get(2), frame);
                }
                return list.size() == 4 ? eval(list.get(3), frame) : Nil.NIL;
            case "set!":
            case "define":
                assign(list, frame);
                return Nil.NIL;
            case "lambda":
                Thing procedure = make(new Thing("procedure", 1));
                procedure.parts[0] = frame;
                procedure.code = new Datum(null, list, 0);
                return procedure;
            case "let":
                return let(list, frame);
            case "begin":
                return last(list.subList(1, list.size()), frame);
            case "while":
                while (eval(list.get(1), frame) != Boolean.FALSE) {
                    last(list.subList(2, list.size()), frame);
                }
                return Nil.NIL;
            case "and":
            case "or":
                return connect(list, frame);
            default:
                return callForm(list, frame);
        }
    }

    private Object connect(List<Datum> list, Thing frame) {
        boolean isAnd = list.get(0).word().equals("and");
        Object value = isAnd;
        for (Datum e : list.subList(1, list.size())) {
            value = eval(e, frame);
            if ((value == Boolean.FALSE) == isAnd) {
                return value;
            }
        }
        return value;
    }

    private Object last(List<Datum> list, Thing frame) {
        Object value = Nil.NIL;
        for (Datum e : list) {
            value = eval(e, frame);
        }
        return value;
    }

    private void assign(List<Datum> list, Thing frame) {
        String word = list.get(1).word();
        Object value = eval(list.get(2), frame);
        Object[] place = find(word, frame);
        if (place != null) {
            ((Thing) place[1]).parts[(Integer) place[2]] = value;
        } else if (list.get(0).word().equals("define") || globals.containsKey(word)) {
            globals.put(word, value);
        } else {
            throw new Fault(5);
        }
    }

    private Object let(List<Datum> list, Thing frame) {
        int mark = held.size();
        List<String> names = new ArrayList<>();
        List<Object> values = new ArrayList<>();
        for (Datum binding : list.get(1).list()) {
            names.add(binding.list().get(0).word());
            values.add(eval(binding.list().get(1), frame));
            held.add(values.get(values.size() - 1));
        }
        Thing inner = frame(names, values, frame);
        drop(mark);
        return last(list.subList(2, list.size()), inner);
    }

    private Thing frame(List<String> names, List<Object> values, Thing around) {
        Thing frame = make(new Thing("frame", 1 + values.size()));
        frame.parts[0] = around;
        frame.slots = new LinkedHashMap<>();
        for (int i = 0; i < values.size(); i++) {
            frame.parts[i + 1] = values.get(i);
            frame.slots.put(names.get(i), i + 1);
        }
        return frame;
    }

    private Object callForm(List<Datum> list, Thing frame) {
        int mark = held.size();
        List<Object> values = new ArrayList<>();
        for (Datum e : list) {
            Object value = eval(e, frame);
            values.add(value);
            held.add(value);
        }
        Object value;
        if (values.get(0) instanceof Primitive primitive) {
            if (TAKES.get(primitive.word()) != values.size() - 1) {
                throw new Fault(7);
            }
            value = operate(primitive.word(), values);
            drop(mark);
        } else if (is(values.get(0), "procedure")) {
            if (names((Thing) values.get(0)).size() != values.size() - 1) {
                throw new Fault(7);
            }
            drop(mark);
            value = call((Thing) values.get(0), values);
        } else {
            throw new Fault(6);
        }
        return value;
    }

    private static List<Datum> names(Thing procedure) {
        return procedure.code.list().get(1).list();
    }

    private Object call(Thing procedure, List<Object> values) {
        if (calls == 60) {
            throw new Fault(8);
        }
        calls++;
        int mark = held.size();
        held.addAll(values);
        List<String> words = new ArrayList<>();
        for (Datum name : names(procedure)) {
            words.add(name.word());
        }
        Thing frame = frame(words, values.subList(1, values.size()), (Thing) procedure.parts[0]);
        drop(mark);
        List<Datum> code = procedure.code.list();
        Object value = last(code.subList(2, code.size()), frame);
        calls--;
        return value;
    }

    private Object quoted(Datum datum) {
        if (datum.list() == null) {
            return datum.atom();
        }
        Object result = Nil.NIL;
        for (int i = datum.list().size() - 1; i >= 0; i--) {
            Object element = quoted(datum.list().get(i));
            Thing pair = make(new Thing("pair", 2));
            pair.parts[0] = element;
            pair.parts[1] = result;
            result = pair;
            held.add(pair);
        }
        return result;
    }

    private static boolean is(Object value, String kind) {
        return value instanceof Thing thing && thing.kind.equals(kind);
    }

    private static Thing need(Object value, String kind) {
        if (!is(value, kind)) {
            throw new Fault(9);
        }
        return (Thing) value;
    }

    private static int needNumber(Object value) {
        if (!(value instanceof Integer)) {
            throw new Fault(9);
        }
        return (Integer) value;
    }

    private static boolean same(Object a, Object b) {
        return a instanceof Thing || b instanceof Thing ? a == b : a.equals(b);
    }

    private Object operate(String word, List<Object> v) {
        Object a = v.size() > 1 ? v.get(1) : null;
        Object b = v.size() > 2 ? v.get(2) : null;
        Object c = v.size() > 3 ? v.get(3) : null;
        switch (word) {
            case "+":
                return needNumber(a) + needNumber(b);
            case "-":
                return needNumber(a) - needNumber(b);
            case "*":
                return needNumber(a) * needNumber(b);
            case "quotient":
            case "remainder":
                long x = needNumber(a);
                long y = needNumber(b);
                if (y == 0) {
                    throw new Fault(10);
                }
                return (int) (word.equals("quotient") ? x / y : x % y);
            case "=":
                return needNumber(a) == needNumber(b);
            case "<":
                return needNumber(a) < needNumber(b);
            case "eq?":
                return same(a, b);
            case "not":
                return a == Boolean.FALSE;
            case "null?":
                return a == Nil.NIL;
            case "pair?":
                return is(a, "pair");
            case "cons":
                return fill(make(new Thing("pair", 2)), a, b);
            case "car":
                return need(a, "pair").parts[0];
            case "cdr":
                return need(a, "pair").parts[1];
            case "set-car!":
                need(a, "pair").parts[0] = b;
                return Nil.NIL;
            case "set-cdr!":
                need(a, "pair").parts[1] = b;
                return Nil.NIL;
            case "hash":
                return a instanceof Thing thing ? number(thing) : 0;
            case "gc":
                collect();
                callQueue();
                return Nil.NIL;
            case "cells":
                return used();
            case "print":
                print(a);
                return Nil.NIL;
            default:
                return operateMore(word, a, b, c);
        }
    }

    private Object operateMore(String word, Object a, Object b, Object c) {
        switch (word) {
            case "vector":
                int size = needNumber(a);
                if (size < 0 || size > 100) {
                    throw new Fault(11);
                }
                Thing vector = make(new Thing("vector", size));
                Arrays.fill(vector.parts, b);
                return vector;
            case "vector-get":
                return need(a, "vector").parts[element(a, b)];
            case "vector-put!":
                need(a, "vector").parts[element(a, b)] = c;
                return Nil.NIL;
            case "vector-size":
                return need(a, "vector").parts.length;
            case "weak":
                return fill(make(new Thing("weak", 1)), a);
            case "weak-get":
                return need(a, "weak").broken ? false : ((Thing) a).parts[0];
            case "ephemeron":
                return fill(make(new Thing("ephemeron", 2)), a, b);
            case "ephemeron-key":
                return need(a, "ephemeron").broken ? false : ((Thing) a).parts[0];
            case "ephemeron-value":
                return need(a, "ephemeron").broken ? false : ((Thing) a).parts[1];
            case "table":
                Thing table = make(new Thing("table", 0));
                table.entries = new IdentityOrEqualMap();
                return table;
            case "table-put!":
                need(a, "table");
                if (!((Thing) a).entries.containsKey(b)) {
                    Thing made = make(new Thing("entry", 2));
                    made.parts[0] = b;
                    ((Thing) a).entries.put(b, made);
                }
                ((Thing) a).entries.get(b).parts[1] = c;
                return Nil.NIL;
            case "table-get":
                Thing entry = need(a, "table").entries.get(b);
                return entry == null ? false : entry.parts[1];
            case "table-size":
                return need(a, "table").entries.size();
            case "finalize!":
                if (!(a instanceof Thing) || names(need(b, "procedure")).size() != 1) {
                    throw new Fault(9);
                }
                if (registrations.size() + queue.size() >= 500) {
                    throw new Fault(11);
                }
                registrations.add(new Object[] {a, b});
                return Nil.NIL;
            default:
                throw new IllegalStateException(word);
        }
    }

    /** Things have no equals of their own, so that they are found by which they are, other values by what. */
    private static final class IdentityOrEqualMap extends HashMap<Object, Thing> {
        private static final long serialVersionUID = 1;
    }

    private static int element(Object vector, Object place) {
        int i = needNumber(place);
        if (i < 0 || i >= ((Thing) vector).parts.length) {
            throw new Fault(11);
        }
        return i;
    }

    private static Thing fill(Thing thing, Object... parts) {
        System.arraycopy(parts, 0, thing.parts, 0, parts.length);
        return thing;
    }

    private int number(Thing thing) {
        if (thing.number == 0) {
            thing.number = ++numbers;
        }
        return thing.number;
    }

    private int used() {
        int all = 0;
        for (Thing thing : heap) {
            all += thing.cells();
        }
        return all;
    }

    private Thing make(Thing thing) {
        if (thing.cells() > limit - used()) {
            collect();
            if (thing.cells() > limit - used()) {
                throw new Fault(12);
            }
        }
        heap.add(thing);
        return thing;
    }

    private void collect() {
        if (fuel < 100) {
            throw new Fault(4);
        }
        fuel -= 100;
        collections++;
        Set<Object> live = live();
        for (Thing thing : heap) {
            if (thing.kind.equals("weak") || thing.kind.equals("ephemeron")) {
                if (!lives(live, thing.parts[0])) {
                    thing.broken = true;
                    Arrays.fill(thing.parts, null);
                }
            }
            if (thing.kind.equals("table")) {
                thing.entries.keySet().removeIf(key -> !lives(live, key));
            }
        }
        List<Object[]> staying = new ArrayList<>();
        for (Object[] registration : registrations) {
            (lives(live, registration[0]) ? staying : queue).add(registration);
        }
        registrations = staying;
        Set<Object> anew = live();
        heap.removeIf(thing -> !anew.contains(thing));
    }

    private static boolean lives(Set<Object> live, Object value) {
        return !(value instanceof Thing) || live.contains(value);
    }

    private Set<Object> live() {
        Set<Object> live = Collections.newSetFromMap(new IdentityHashMap<>());
        live.addAll(held);
        live.addAll(globals.values());
        for (Object[] call : queue) {
            live.addAll(Arrays.asList(call));
        }
        for (int before = -1; before != live.size();) {
            before = live.size();
            for (Object value : live.toArray()) {
                if (value instanceof Thing thing) {
                    live.addAll(inside(thing, live));
                }
            }
            for (Object[] registration : registrations) {
                if (live.contains(registration[0])) {
                    live.add(registration[1]);
                }
            }
        }
        return live;
    }

    private static List<Object> inside(Thing thing, Set<Object> live) {
        List<Object> inside = new ArrayList<>();
        if (thing.kind.equals("table")) {
            for (Map.Entry<Object, Thing> entry : thing.entries.entrySet()) {
                if (lives(live, entry.getKey())) {
                    inside.add(entry.getValue());
                    inside.add(entry.getValue().parts[1]);
                }
            }
        } else if (thing.kind.equals("ephemeron")) {
            if (!thing.broken && lives(live, thing.parts[0])) {
                inside.add(thing.parts[1]);
            }
        } else if (!thing.kind.equals("weak") && !thing.kind.equals("entry")) {
            inside.addAll(Arrays.asList(thing.parts));
        }
        return inside;
    }

    private void print(Object value) {
        StringBuilder line = new StringBuilder();
        try {
            write(value, 0, line, new int[1]);
        } catch (Fault cut) {
            for (int i = 0; i < cut.place; i++) {
                line.append(')');
            }
        }
        line.append('\n');
        output.append(line, 0, Math.min(line.length(), 4000 - output.length()));
    }

    /** Where a 41st part would stand the writing ends, with as many brackets to close as are open. */
    private void write(Object value, int open, StringBuilder line, int[] parts) {
        if (!is(value, "pair") || open == 10) {
            if (parts[0] == 40) {
                line.append("...");
                throw new Fault(0, open);
            }
            parts[0]++;
            line.append(is(value, "pair") ? "..." : spelled(value));
            return;
        }
        line.append('(');
        write(((Thing) value).parts[0], open + 1, line, parts);
        Object rest = ((Thing) value).parts[1];
        while (is(rest, "pair")) {
            line.append(' ');
            write(((Thing) rest).parts[0], open + 1, line, parts);
            rest = ((Thing) rest).parts[1];
        }
        if (rest != Nil.NIL) {
            line.append(" . ");
            write(rest, open + 1, line, parts);
        }
        line.append(')');
    }

    private static String spelled(Object value) {
        if (value instanceof Boolean) {
            return value.equals(true) ? "#t" : "#f";
        }
        if (value instanceof Name name) {
            return name.word();
        }
        if (value instanceof Thing thing) {
            return "#<" + thing.kind + ">";
        }
        return value instanceof Primitive ? "#<procedure>" : value == Nil.NIL ? "()" : value.toString();
    }
}
