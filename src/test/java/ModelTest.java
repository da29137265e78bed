import java.util.Random;

/**
 * Holds the program against Model: the same calls on both, every answer compared. The programs are drawn at
 * random from fixed seeds, so that each run of this test makes the same calls.
 */
public final class ModelTest {
    private static final String SPLICES =
            "((((()))))''''##tf;\n\n    aabcxyz0123456789!?*+-/<=>.,AZ@[`{|}~\"$%&:_\\^\t\u007f\u0000\u00ff";
    private static final String[] HEADS = {
        "quote", "if", "set!", "define", "lambda", "let", "begin", "while", "and", "or", "f", "car", "(lambda (x) x)"
    };

    private final Random random;
    private final WeakScheme scheme;
    private final Model model;
    private final StringBuilder story = new StringBuilder();
    private boolean alike = true;
    /** How many calls the document still promises an answer for. */
    private int calls = 512;

    private ModelTest(long seed, int... choices) {
        random = new Random(seed);
        int cells = oneOf(choices);
        scheme = new WeakScheme(cells);
        model = new Model(cells);
        story.append("seed ").append(seed).append(", new WeakScheme(").append(cells).append(")\n");
    }

    public static void main(String[] args) {
        int seeds = args.length > 0 ? Integer.parseInt(args[0]) : 4000;
        int wrong = 0;
        for (int seed = 0; seed < seeds && wrong < 3; seed++) {
            ModelTest test = tested(seed);
            Check.due("seed " + seed + " is alike", test.alike, true);
            if (!test.alike) {
                wrong++;
                System.out.println(test.story);
            }
        }
        Check.end();
    }

    private static ModelTest tested(int seed) {
        // Those of many registrations take the model far longer than the others.
        int kind = seed % 64 == 63 ? 7 : seed % 7;
        ModelTest test = kind == 3 || kind == 7 ? new ModelTest(seed, 4000, 20000) : kind == 5
                ? new ModelTest(seed, 100, 120, 140, 170, 200, 300) : new ModelTest(seed, 100, 130, 200, 300, 500, 1000);
        switch (kind) {
            case 0:
            case 4:
                test.runCollections();
                break;
            case 1:
                test.runShapes();
                break;
            case 2:
                test.runSplices();
                break;
            case 3:
                test.runPrints();
                test.runRooms();
                break;
            case 5:
                test.runQueues();
                break;
            case 6:
                test.runAnyCalls();
                break;
            default:
                test.runRegistrations();
                break;
        }
        return test;
    }

    private int oneOf(int... choices) {
        return choices[random.nextInt(choices.length)];
    }

    private String oneOf(String... choices) {
        return choices[random.nextInt(choices.length)];
    }

    private void compare(String what, long got, long want) {
        calls--;
        if (got != want && alike && calls >= 0) {
            alike = false;
            story.append(what).append(" answered ").append(got).append(", the model ").append(want).append('\n');
        }
    }

    private void compareFeed(byte[] bytes, int at) {
        boolean fed = Check.feedTwenty(scheme, bytes, at);
        compare("feed", fed ? 1 : 0, model.feed(Check.four(bytes, at), Check.four(bytes, at + 4),
                Check.four(bytes, at + 8), Check.four(bytes, at + 12), Check.four(bytes, at + 16)) ? 1 : 0);
    }

    private boolean goesOn() {
        return alike && calls > 0;
    }

    private void run(String text, int fuel) {
        byte[] bytes = Check.bytes(text);
        story.append("run ").append(fuel).append(": ").append(text).append('\n');
        for (int at = 0; at < bytes.length; at += 20) {
            compareFeed(bytes, at);
        }
        int n = random.nextInt(20) == 0 ? random.nextInt(bytes.length + 40) - 10 : bytes.length;
        compare("count(5)", scheme.count(5), model.count(5));
        compare("run " + n, scheme.run(n, fuel), model.run(n, fuel));
        compare("place", scheme.place(), model.place());
        for (int what = 0; what <= 8; what++) {
            compare("count " + what, scheme.count(what), model.count(what));
        }
        long fetched = 1;
        for (int i = random.nextInt(30); i > 0 && fetched != 0 && goesOn(); i--) {
            fetched = model.fetch();
            compare("fetch", scheme.fetch(), fetched);
        }
    }

    /** Defines the names that the statements use. */
    private void prepare() {
        run("(define p0 (cons 0 0)) (define p1 (cons 1 '(1))) (define p2 '((2) 2)) (define v0 (vector 2 0))", 1000);
        run("(define x0 0) (define x1 1) (define x2 2) (define w0 (weak p0)) (define w1 (weak (cons 1 1)))", 1000);
        run("(define e0 (ephemeron p0 p1)) (define e1 (ephemeron p1 (cons p1 1)))", 1000);
        run("(define t0 (table)) (define t1 (table)) (define f0 (lambda (o) (print o)))", 1000);
        run("(define f1 (lambda (o) (set! x0 o))) (define f2 (lambda (o) (finalize! o f0) (print 'again)))", 1000);
        run("(define r (lambda (n) (if (< n 1) (gc) (r (- n 1)))))", 1000);
    }

    private void runCollections() {
        prepare();
        for (int i = 0; i < 16 && goesOn(); i++) {
            StringBuilder text = new StringBuilder();
            for (int j = random.nextInt(8); j >= 0; j--) {
                text.append(statement()).append(' ');
            }
            run(text.toString(), oneOf(50, 150, 400, 1000, 3000, 20000));
        }
    }

    private String statement() {
        switch (random.nextInt(16)) {
            case 0:
                return "(define " + any() + " " + expression(3) + ")";
            case 1:
                return "(set! " + pair() + " (cons " + expression(2) + " " + expression(2) + "))";
            case 2:
                return "(set! " + weak() + " (weak " + expression(2) + "))";
            case 3:
                return "(set! " + ephemeron() + " (ephemeron " + expression(1) + " " + expression(2) + "))";
            case 4:
            case 5:
                return "(table-put! " + table() + " " + expression(1) + " " + expression(2) + ")";
            case 6:
            case 7:
                return "(finalize! " + expression(2) + " " + finalizer() + ")";
            case 8:
            case 9:
                return "(gc)";
            case 10:
                return "(let ((i 0)) (while (< i " + random.nextInt(40) + ") " + expression(3)
                        + " (set! i (+ i 1))))";
            case 11:
                return "(print " + expression(2) + ")";
            case 12:
                return "(set! x" + random.nextInt(3) + " " + expression(1) + ")";
            case 13:
                return "(r " + oneOf(1, 5, 20, 58, 59, 60, 61) + ")";
            case 14:
                return "(print (cells))";
            default:
                return expression(4);
        }
    }

    private String pair() {
        return "p" + random.nextInt(3);
    }

    private String weak() {
        return "w" + random.nextInt(2);
    }

    private String ephemeron() {
        return "e" + random.nextInt(2);
    }

    private String table() {
        return "t" + random.nextInt(2);
    }

    private String any() {
        return "x" + random.nextInt(3);
    }

    private String anyGlobal() {
        return random.nextInt(60) == 0 ? oneOf("unknown", "car", "r", "i") : random.nextInt(3) == 0
                ? oneOf(weak(), ephemeron(), table(), "v0", "f0") : oneOf(pair(), any());
    }

    private String finalizer() {
        switch (random.nextInt(6)) {
            case 0:
                return "f0";
            case 1:
                return "f1";
            case 2:
                return "f2";
            case 3:
                return "(let ((h " + expression(2) + ")) (lambda (o) (print h) (print o)))";
            case 4:
                return "(lambda (o) " + expression(2) + " (set! " + any() + " o))";
            default:
                return random.nextInt(5) == 0 ? oneOf("car", "r2", "(lambda () 1)", "5") : "f0";
        }
    }

    private String expression(int depth) {
        if (depth == 0 || random.nextInt(5) == 0) {
            return oneOf(anyGlobal(), anyGlobal(), pair(), "" + random.nextInt(3), "#t", "#f", "'()", "'s",
                    "'(a (b) 1)", "(cons 1 2)");
        }
        int d = depth - 1;
        switch (random.nextInt(26)) {
            case 0:
            case 1:
                return "(cons " + expression(d) + " " + expression(d) + ")";
            case 2:
                return oneOf("(car ", "(cdr ") + oneOf(pair(), expression(d)) + ")";
            case 3:
                return "(set-" + oneOf("car! ", "cdr! ") + pair() + " " + expression(d) + ")";
            case 4:
                return "(vector " + oneOf("0", "1", "3", "40", "101", "-1") + " " + expression(d) + ")";
            case 5:
                return "(vector-get " + oneOf("v0", expression(d)) + " " + oneOf("0", "1", "2", "-1") + ")";
            case 6:
                return "(vector-put! v0 " + oneOf("0", "1", "2") + " " + expression(d) + ")";
            case 7:
                return "(weak " + expression(d) + ")";
            case 8:
                return "(weak-get " + weak() + ")";
            case 9:
                return "(ephemeron " + expression(d) + " " + expression(d) + ")";
            case 10:
                return oneOf("(ephemeron-key ", "(ephemeron-value ") + ephemeron() + ")";
            case 11:
                return "(let ((t (table))) (table-put! t " + expression(d) + " " + expression(d) + ") t)";
            case 12:
                return oneOf("(table-get " + table() + " " + expression(d) + ")", "(table-size " + table() + ")");
            case 13:
                return "(finalize! " + expression(d) + " " + finalizer() + ")";
            case 14:
                return oneOf("(hash ", "(not ", "(null? ", "(pair? ") + expression(d) + ")";
            case 15:
                return oneOf("(gc)", "(cells)");
            case 16:
                return "(print " + expression(d) + ")";
            case 17:
                return oneOf("(+ ", "(- ", "(* ", "(quotient ", "(remainder ", "(= ", "(< ", "(eq? ")
                        + expression(d) + " " + expression(d) + ")";
            case 18:
                return "(if " + expression(d) + " " + expression(d) + oneOf("", " " + expression(d)) + ")";
            case 19:
                return "(let ((y " + expression(d) + ") (x1 " + expression(d) + ")) " + expression(d) + " y)";
            case 20:
                return "(" + oneOf("and", "or", "begin 0") + " " + expression(d) + " " + expression(d) + ")";
            case 21:
                return "(lambda (" + oneOf("", "o", "x0 x1") + ") " + expression(d) + ")";
            case 22:
                return "((lambda (o x0) " + expression(d) + " o) " + expression(d) + " " + expression(d) + ")";
            case 23:
                return "(begin (set! " + (random.nextInt(20) == 0 ? anyGlobal() : any()) + " " + expression(d) + ") " + expression(d) + ")";
            case 24:
                return "(f" + random.nextInt(3) + " " + expression(d) + ")";
            default:
                return expression(d);
        }
    }

    /** Little room, and procedures in the queue that make objects, collect, register again and fail. */
    private void runQueues() {
        run("(define n 0) (define a 0) (define b 0) (define c 0) (define w (weak 0)) (define e (ephemeron 0 0)) (define t (table))",
                1000);
        for (int i = 0; i < 3; i++) {
            run("(define f" + i + " " + queued(2) + ")", 1000);
        }
        for (int i = 0; i < 20 && goesOn(); i++) {
            StringBuilder text = new StringBuilder();
            for (int j = random.nextInt(4); j >= 0; j--) {
                text.append(random.nextInt(3) == 0 ? "(begin " + step(2) + " " + step(2) + " " + step(1) + ")" : step(3));
            }
            run(text.append(random.nextInt(6) == 0 ? " (car 0)" : "").toString(), oneOf(150, 350, 700, 1500, 5000));
        }
    }

    /** A procedure for the queue. */
    private String queued(int depth) {
        StringBuilder body = new StringBuilder("(lambda (o) ");
        if (random.nextInt(2) == 0) {
            body.append("(print n) ");
        }
        for (int j = random.nextInt(3); j >= 0; j--) {
            body.append(oneOf("(gc)", "(set! " + oneOf("a", "b", "c") + " o)", "(finalize! o f" + random.nextInt(3) + ")",
                    "(if (< (cells) " + oneOf(20, 60, 100) + ") (gc))", "(print (cells))",
                    random.nextInt(8) == 0 ? "(car 0)" : "(set! w (weak o))", step(depth - 1), step(depth - 1)));
        }
        return body.append(" (set! n (+ n 1)))").toString();
    }

    /** What is done with operands of the right sort. */
    private String step(int depth) {
        int d = Math.max(0, depth - 1);
        switch (random.nextInt(depth > 0 ? 18 : 12)) {
            case 0:
            case 1:
                return "(set! " + oneOf("a", "b", "c") + " " + thing(d) + ")";
            case 2:
            case 3:
                return "(finalize! " + object(d) + " f" + random.nextInt(3) + ")";
            case 4:
                return "(gc)";
            case 5:
                return "(vector " + oneOf("5", "20", "45") + " " + thing(d) + ")";
            case 6:
                return "(table-put! t " + thing(d) + " " + thing(d) + ")";
            case 7:
                return "(set! w (weak " + thing(d) + "))";
            case 8:
                return "(set! e (ephemeron " + thing(d) + " " + thing(d) + "))";
            case 9:
                return "(print " + oneOf("a", "b", "(weak-get w)", "(ephemeron-key e)", "(ephemeron-value e)", "(table-size t)",
                        "(hash a)", "(table-get t a)", "(cells)") + ")";
            case 10:
                return "(if (pair? a) (set-car! a " + thing(d) + "))";
            case 11:
                return "(set! " + oneOf("a", "b", "c") + " 0)";
            case 12:
                return "(finalize! " + object(d) + " " + queued(d) + ")";
            case 13:
                return "(let ((i 0)) (while (< i " + random.nextInt(12) + ") " + step(d) + " (set! i (+ i 1))))";
            case 14:
                return "(let ((x " + thing(d) + ") (y " + thing(d) + ")) " + letGo() + step(d) + " " + step(d) + ")";
            case 15:
                return "((lambda (x y) " + letGo() + step(d) + " x) " + thing(d) + " " + thing(d) + ")";
            case 16:
                return "(f" + random.nextInt(3) + " " + thing(d) + ")";
            default:
                return "(begin " + step(d) + " " + step(d) + ")";
        }
    }

    /** A value that only the frame had may go, though the form that made it is not through. */
    private String letGo() {
        return oneOf("", "(set! x 0) ", "(set! w (weak x)) (set! x y) ", "(set! e (ephemeron y x)) (set! y 0) ");
    }

    private String thing(int depth) {
        return random.nextInt(2) == 0 ? oneOf("a", "b", "c", "(weak-get w)", "7", "'s", "#f") : object(depth);
    }

    private String object(int depth) {
        int d = depth - 1;
        if (depth <= 0) {
            return oneOf("(cons 1 a)", "'(1)", "'(1 (2 3) 4)", "t", "w", "(table)", "(vector 3 b)", "(lambda () 1)");
        }
        return oneOf("(cons " + thing(d) + " " + thing(d) + ")", "(weak " + thing(d) + ")", "'(1 ((2) 3) 4 (5 6 7))",
                "(ephemeron " + thing(d) + " " + thing(d) + ")", "(let ((x " + thing(d) + ")) " + step(d) + " (cons x x))",
                "(let ((x " + thing(d) + ") (u (table))) (table-put! u x " + thing(d) + ") (cons x u))",
                "(let ((x " + thing(d) + ")) (lambda () x))", "(vector 4 " + thing(d) + ")");
    }

    /** All calls in any order: texts that come in parts, are cut, are run twice; refused calls among them. */
    private void runAnyCalls() {
        prepare();
        byte[] bytes = new byte[0];
        int at = 0;
        while (goesOn()) {
            if (at >= bytes.length) {
                bytes = Check.bytes(random.nextInt(4) == 0 ? datum(2, true) : statement() + statement());
                story.append("text: ").append(new String(bytes, java.nio.charset.StandardCharsets.ISO_8859_1)).append('\n');
                at = 0;
            }
            int kind = random.nextInt(12);
            if (kind < 4) {
                compareFeed(bytes, at);
                at += 20;
            } else if (kind < 6) {
                int n = oneOf(0, at, at, bytes.length, bytes.length, -1, 20, random.nextInt(60), at + 1, 3000);
                int fuel = oneOf(0, 5, 120, 400, 20000, 20000, -1, 20001, Integer.MIN_VALUE);
                story.append("run(").append(n).append(", ").append(fuel).append(")\n");
                compare("run", scheme.run(n, fuel), model.run(n, fuel));
            } else if (kind < 8) {
                compare("fetch", scheme.fetch(), model.fetch());
            } else if (kind < 9) {
                compare("place", scheme.place(), model.place());
            } else {
                int what = random.nextInt(12) - 1;
                compare("count " + what, scheme.count(what), model.count(what));
            }
            if (random.nextInt(150) == 0) {
                for (int i = 0; i < 155 && goesOn(); i++) {
                    compareFeed(bytes, 0);
                }
            }
        }
    }

    /** Hundreds of registrations, and a queue that a fault leaves with some of them. */
    private void runRegistrations() {
        run("(define l '()) (define m 0) (define s 0) (define f (lambda (o) (set! s (+ s (car o))) (if (= (car o) m) (car 0))))",
                1000);
        run("(define many (lambda (i j) (while (< i j) (finalize! (cons i i) f) (set! i (+ i 1)))))", 1000);
        run("(define some (lambda (i j) (while (< i j) (set! l (cons (cons i i) l)) (finalize! (car l) f) (set! i (+ i 1)))))", 1000);
        run("(define waste (lambda (i) (while (< 0 i) (vector 97 0) (set! i (- i 1)))))", 1000);
        for (int i = 0; i < 14 && goesOn(); i++) {
            int from = random.nextInt(400);
            StringBuilder text = new StringBuilder("(set! m " + random.nextInt(600) + ") ");
            for (int j = random.nextInt(3); j >= 0; j--) {
                text.append(oneOf("(many " + from + " " + (from + random.nextInt(300)) + ") ", "(set! l '()) ",
                        "(some " + from + " " + (from + random.nextInt(200)) + ") ", "(gc) ", "(begin (waste 210) (car 0)) ",
                        "(if (pair? l) (set! l (cdr l))) ", "(print s) "));
            }
            run(text.toString(), oneOf(3000, 20000, 20000));
        }
    }

    private void runShapes() {
        for (int i = 0; i < 30 && goesOn(); i++) {
            StringBuilder text = new StringBuilder();
            for (int j = random.nextInt(3); j >= 0; j--) {
                text.append(datum(random.nextInt(5), true)).append(oneOf(" ", "", "\n", "; x\n"));
            }
            run(text.toString(), oneOf(0, 3, 20, 300));
        }
    }

    /** A datum that is often, but not always, an expression. */
    private String datum(int depth, boolean mayDefine) {
        if (depth == 0 || random.nextInt(6) == 0) {
            return oneOf("a", "b", "5", "-7", "#t", "#f", "'q", "'(1 'x)", "print", "if", "()", "x!", "car", "a", "1");
        }
        String head = oneOf(HEADS);
        if (random.nextInt(12) == 0) {
            return "'" + datum(depth - 1, true);
        }
        StringBuilder list = new StringBuilder("(").append(head);
        if (head.equals("define") && !mayDefine) {
            list.setLength(1);
            list.append("print");
        }
        if (head.equals("set!") || head.equals("define")) {
            list.append(' ').append(oneOf("a", "b", "c", datum(1, false)));
        } else if (head.equals("lambda")) {
            list.append(' ').append(names());
        } else if (head.equals("let")) {
            list.append(' ').append(bindings(depth - 1));
        }
        for (int i = oneOf(1, 1, 1, 2, 2, 0, 3, 8, 9); i > 0; i--) {
            list.append(' ').append(datum(depth - 1, random.nextInt(9) == 0));
        }
        return list.append(')').toString();
    }

    private String names() {
        if (random.nextInt(15) == 0) {
            return oneOf("a", "5", "'x", "#t");
        }
        StringBuilder names = new StringBuilder("(");
        for (int i = oneOf(0, 1, 2, 3, 7, 8, 9); i > 0; i--) {
            names.append((char) ('a' + i)).append(' ');
            if (random.nextInt(20) == 0) {
                names.append(oneOf("if", "5", "(a)", "b", "()")).append(' ');
            }
        }
        return names.append(')').toString();
    }

    private String bindings(int depth) {
        if (random.nextInt(15) == 0) {
            return oneOf("a", "5", "'x", "#t");
        }
        StringBuilder names = new StringBuilder("(");
        for (int i = oneOf(0, 1, 2, 3, 7, 8, 9); i > 0; i--) {
            names.append('(').append((char) ('a' + i)).append(' ')
                    .append(random.nextInt(3) == 0 ? datum(depth, false) : "1").append(')');
            if (random.nextInt(20) == 0) {
                names.append(oneOf("if", "5", "(a)", "(a 1 2)", "()", "(5 5)", "(if 1)", "((a) 1)", "'x", "(b 1)"));
            }
        }
        return names.append(')').toString();
    }

    private void runSplices() {
        prepare();
        for (int i = 0; i < 30 && goesOn(); i++) {
            StringBuilder text = new StringBuilder(statement());
            for (int j = random.nextInt(4); j > 0; j--) {
                int at = random.nextInt(text.length() + 1);
                char splice = SPLICES.charAt(random.nextInt(SPLICES.length()));
                if (random.nextBoolean() && at < text.length()) {
                    text.setCharAt(at, splice);
                } else {
                    text.insert(at, splice);
                }
            }
            run(text.toString(), 500);
        }
    }

    /** Lists near the bounds of what print writes, rings among them. */
    private void runPrints() {
        run("(define r (cons 1 2)) (set-cdr! r (cons 3 r)) (define q (cons 4 5)) (set-car! q q)", 1000);
        for (int i = 0; i < 5 && goesOn(); i++) {
            StringBuilder text = new StringBuilder("(print '" + nested(random.nextInt(14), random.nextInt(60)) + ") ");
            text.append("(print (cons '").append(nested(random.nextInt(4), 45)).append(' ');
            text.append(oneOf("r", "q", "'()", "7", "'(a b)", "(cons q r)", "car")).append("))");
            if (random.nextInt(4) == 0) {
                text.append("(let ((i 0)) (while (< i ").append(random.nextInt(700)).append(") (print 123456) (set! i (+ i 1))))");
            }
            run(text.toString(), 20000);
        }
    }

    private String nested(int depth, int length) {
        StringBuilder list = new StringBuilder("(");
        int deeper = depth == 0 ? -1 : random.nextInt(1 + length / 2);
        for (int i = 0; i < length; i++) {
            list.append(i == deeper ? nested(depth - 1, random.nextInt(3) == 0 ? random.nextInt(45) : random.nextInt(4))
                    : oneOf("1", "a", "()", "(1)", "#f", "-12")).append(' ');
        }
        return list.append(')').toString();
    }

    /** Texts near the bounds of data, depth and names. */
    private void runRooms() {
        for (int i = 0; i < 6 && goesOn(); i++) {
            StringBuilder text = new StringBuilder("'1".repeat(oneOf(0, 0, 600, 660, 664, 665, 666, 667)));
            for (int j = random.nextInt(6); j >= 0; j--) {
                text.append(oneOf(" 1", "'a", "''", "()", " if", "'x", " #t", "(and)", " 12345678901", " 1a", ";\n")
                        .repeat(oneOf(1, 1, 1, 2, 9)));
            }
            if (random.nextInt(3) == 0) {
                text.append("'(");
                for (int j = oneOf(1, 5, 60, 130, 260, 400); j > 0; j--) {
                    text.append((char) ('a' + random.nextInt(26))).append((char) ('a' + random.nextInt(26))).append(' ');
                }
                text.append(')');
            }
            if (random.nextInt(2) == 0) {
                int depth = oneOf(27, 28, 29, 30, 31);
                String open = oneOf("(and ", "'", "(", "(f'");
                text.append(open.repeat(open.equals("(f'") ? depth / 2 : depth)).append(oneOf("1", "'1", "()", "a", ""))
                        .append(")".repeat(open.equals("'") ? 0 : open.equals("(f'") ? depth / 2 : depth));
            }
            if (random.nextInt(4) == 0) {
                text.append(oneOf(")", "A", "#", "'", "("));
            }
            run(text.toString(), oneOf(0, 3, 20000));
        }
    }
}
