/** 'Terms', PRIMITIVES: a test for each sentence that names a bound, an empty or full one, or a fault. */
public final class PrimitiveSentencesTest {
    /** A value of each sort, by the letter of its sort. */
    private static final String[][] VALUES = {
        {"n", "7"}, {"s", "'a"}, {"b", "#f"}, {"0", "'()"}, {"c", "car"}, {"p", "p"}, {"v", "v"}, {"f", "f1"}, {"g", "f0"},
        {"h", "f2"}, {"w", "w"}, {"e", "e"}, {"t", "t"}
    };
    private static final String OBJECTS = "pvfghwet";

    public static void main(String[] args) {
        numbersOfOperands();
        sorts();
        arithmetic();
        comparisons();
        pairs();
        vectors();
        weakReferences();
        ephemerons();
        tables();
        registrations();
        numbersOfIdentity();
        cellsInUse();
        results();
        Check.end();
    }

    private static Check scheme() {
        Check x = new Check(2000);
        x.run("(define p (cons 1 2)) (define v (vector 9 0)) (define f0 (lambda () 1)) (define f1 (lambda (x) x))");
        x.run("(define f2 (lambda (x y) x)) (define w (weak p)) (define e (ephemeron p v)) (define t (table))");
        return x;
    }

    private static void numbersOfOperands() {
        Check.sentence("PRIMITIVES, with numbers of operands");
        String[] all = ("+ 2 - 2 * 2 quotient 2 remainder 2 = 2 < 2 eq? 2 not 1 null? 1 pair? 1 cons 2 car 1 cdr 1 set-car! 2 "
                + "set-cdr! 2 vector 2 vector-get 2 vector-put! 3 vector-size 1 weak 1 weak-get 1 ephemeron 2 ephemeron-key 1 "
                + "ephemeron-value 1 table 0 table-put! 3 table-get 2 table-size 1 finalize! 2 hash 1 gc 0 cells 0 print 1")
                .split(" ");
        for (int i = 0; i < all.length; i += 2) {
            for (int given = 0; given <= 8; given++) {
                String call = "(" + all[i] + " f2".repeat(given) + ")";
                Check.due(call + " has fault 7", scheme().run(call) == 7, given != Integer.parseInt(all[i + 1]));
            }
        }
    }

    /** The operands of a primitive by their sorts: a letter of VALUES, o any object, x anything. */
    private static void takesOnly(String primitive, String sorts) {
        for (int which = 0; which < sorts.length(); which++) {
            for (String[] value : VALUES) {
                StringBuilder call = new StringBuilder("(" + primitive);
                for (int i = 0; i < sorts.length(); i++) {
                    call.append(' ').append(i == which ? value[1] : right(sorts.charAt(i)));
                }
                char sort = sorts.charAt(which);
                boolean holds = sort == 'x' || sort == 'o' && OBJECTS.contains(value[0]) || value[0].charAt(0) == sort;
                scheme().ends(call.append(')').toString(), holds ? 0 : 9);
            }
        }
    }

    private static String right(char sort) {
        for (String[] value : VALUES) {
            if (value[0].charAt(0) == sort) {
                return value[1];
            }
        }
        return "p";
    }

    private static void sorts() {
        Check.sentence("an operand of a wrong sort is fault 9 TYPE");
        String[] all = ("+ nn - nn * nn quotient nn remainder nn = nn < nn eq? xx not x null? x pair? x cons xx car p cdr p "
                + "set-car! px set-cdr! px vector nx vector-get vn vector-put! vnx vector-size v weak x weak-get w ephemeron xx "
                + "ephemeron-key e ephemeron-value e table-put! txx table-get tx table-size t finalize! of hash x print x")
                .split(" ");
        for (int i = 0; i < all.length; i += 2) {
            takesOnly(all[i], all[i + 1]);
        }
        Check.sentence("(the first one first; ahead of 10, 11)");
        scheme().ends("(quotient 'a 0)", 9).ends("(remainder 0 'a)", 9).ends("(remainder #f 0)", 9).ends("(vector-get p 99)", 9)
                .ends("(vector-get v 'a)", 9).ends("(vector-put! p -1 0)", 9).ends("(vector-put! v '() 0)", 9)
                .ends("(vector 'a 0)", 9)
                .ends("(vector #t 101)", 9).ends("(quotient 1 0)", 10).ends("(vector-get v 9)", 11);
        Check x = scheme();
        x.run("(define i 0) (while (< i 500) (finalize! p f1) (set! i (+ i 1)))");
        x.ends("(finalize! p f1)", 11).ends("(finalize! 5 f1)", 9).ends("(finalize! p f0)", 9).ends("(finalize! p car)", 9);
    }

    private static void arithmetic() {
        Check.sentence("+ - * quotient remainder 2 (numbers; 10 DIVIDE by 0");
        scheme().ends("(quotient 5 0)", 10).ends("(remainder 5 0)", 10).ends("(quotient 0 0)", 10)
                .ends("(remainder -2147483648 0)", 10)
                .ends("(quotient 5 (- 3 3))", 10).ends("(quotient 0 5)", 0).ends("(+ 0 0)", 0).ends("(* 0 0)", 0);
        Check.sentence("rounded to 0, the remainder has the first one's sign)");
        int[][] pairs = {{7, 2}, {-7, 2}, {7, -2}, {-7, -2}, {6, 3}, {-6, 3}, {1, 2}, {-1, 2}, {0, -5}, {Integer.MAX_VALUE, 10},
            {Integer.MIN_VALUE, 10}, {Integer.MIN_VALUE, 1}, {Integer.MIN_VALUE, Integer.MIN_VALUE}, {1, Integer.MIN_VALUE}};
        for (int[] pair : pairs) {
            scheme().writes("(print (quotient " + pair[0] + " " + pair[1] + ")) (print (remainder " + pair[0] + " " + pair[1]
                    + "))",
                    (long) pair[0] / pair[1] + "\n" + (long) pair[0] % pair[1] + "\n");
        }
        // The one quotient that wraps.
        scheme().writes("(print (quotient -2147483648 -1)) (print (remainder -2147483648 -1))", "-2147483648\n0\n");
    }

    private static void comparisons() {
        Check.sentence("= < 2 (numbers)");
        int[] numbers = {Integer.MIN_VALUE, -1, 0, 1, Integer.MAX_VALUE};
        for (int a : numbers) {
            for (int b : numbers) {
                scheme().writes("(print (= " + a + " " + b + ")) (print (< " + a + " " + b + "))",
                        (a == b ? "#t\n" : "#f\n") + (a < b ? "#t\n" : "#f\n"));
            }
        }
        Check.sentence("eq? 2 (the same number, symbol, primitive, object, or the like)");
        String[] values = {"0", "1", "-1", "'a", "'b", "#t", "#f", "'()", "car", "cdr", "p", "v", "f0", "f1", "w", "e", "t"};
        for (String a : values) {
            for (String b : values) {
                scheme().writes("(print (eq? " + a + " " + b + "))", a.equals(b) ? "#t\n" : "#f\n");
            }
        }
        scheme().writes("(print (eq? (cons 1 2) (cons 1 2))) (print (eq? '(1) '(1))) (print (eq? (+ 2147483647 1) -2147483648))",
                "#f\n#f\n#t\n");
        Check.sentence("not null? pair? 1");
        for (String[] value : VALUES) {
            scheme().writes("(print (not " + value[1] + ")) (print (null? " + value[1] + ")) (print (pair? " + value[1] + "))",
                    (value[0].equals("b") ? "#t\n" : "#f\n") + (value[0].equals("0") ? "#t\n" : "#f\n")
                            + (value[0].equals("p") ? "#t\n" : "#f\n"));
        }
    }

    private static void pairs() {
        Check.sentence("cons 2");
        scheme().writes("(print (cons 1 2)) (print (cons '() '())) (print (cons 1 '(2)))", "(1 . 2)\n(())\n(1 2)\n")
                .ends("(cons 1)", 7).ends("(cons)", 7).ends("(cons 1 2 3)", 7);
        Check.sentence("car cdr 1 (a pair)   set-car! set-cdr! 2");
        scheme().ends("(car '())", 9).ends("(cdr '())", 9).ends("(set-car! '() 1)", 9).ends("(set-cdr! '() 1)", 9)
                .ends("(car v)", 9)
                .writes("(print (car p)) (print (cdr p)) (set-car! p 3) (print p) (set-cdr! p '()) (print p)",
                "1\n2\n(3 . 2)\n(3)\n");
    }

    private static void vectors() {
        Check.sentence("vector 2 (a number of elements, 0 .. 100, else 11 RANGE");
        for (int n : new int[] {0, 1, 99, 100}) {
            scheme().writes("(print (vector-size (vector " + n + " 'x)))", n + "\n");
        }
        for (int n : new int[] {-1, 101, 1000, Integer.MIN_VALUE, Integer.MAX_VALUE}) {
            scheme().ends("(vector " + n + " 'x)", 11);
        }
        // RANGE comes ahead of the room for it.
        new Check(100).ends("(vector 101 0)", 11).counts(2, 0);
        Check.sentence("each is at first the second operand)");
        scheme().writes("(define u (vector 100 p)) (print (eq? (vector-get u 0) p)) (print (eq? (vector-get u 99) p)) (set-car! "
                + "p 5)"
                + "(print (vector-get u 50))", "#t\n#t\n(5 . 2)\n");
        Check.sentence("vector-get 2 (vector, place from 0; 11, also below 0)   vector-put! 3   vector-size 1");
        Check x = scheme();
        for (int place : new int[] {-1, 9, 10, 100, Integer.MIN_VALUE, Integer.MAX_VALUE}) {
            x.ends("(vector-get v " + place + ")", 11).ends("(vector-put! v " + place + " 1)", 11);
        }
        for (int place = 0; place < 9; place++) {
            x.writes("(vector-put! v " + place + " " + (place + 1) + ") (print (vector-get v " + place + "))", place + 1 + "\n");
        }
        x.writes("(print (vector-get v 0)) (print (vector-get v 8)) (print (vector-size v))", "1\n9\n9\n");
        x.ends("(vector-get (vector 0 1) 0)", 11).ends("(vector-put! (vector 0 1) 0 1)", 11)
                .ends("(vector-get (vector 0 1) -1)", 11);
        x.writes("(define u (vector 100 1)) (vector-put! u 99 2) (print (vector-get u 98)) (print (vector-get u 99))", "1\n2\n")
                .ends("(vector-get u 100)", 11);
    }

    private static void weakReferences() {
        Check.sentence("weak 1: a WEAK of any value   weak-get 1: its value, FALSE if it is cleared");
        for (String[] value : VALUES) {
            scheme().writes("(define r (weak " + value[1] + ")) (gc) (print (eq? (weak-get r) " + value[1] + "))", "#t\n");
        }
        scheme().writes("(define r (weak (cons 1 2))) (print (weak-get r)) (gc) (print (weak-get r)) (gc) (print (weak-get r))",
                "(1 . 2)\n#f\n#f\n");
    }

    private static void ephemerons() {
        Check.sentence("ephemeron 2: one of a key and a value   ephemeron-key ephemeron-value 1: FALSE if it is broken");
        for (String[] value : VALUES) {
            scheme().writes("(define r (ephemeron " + value[1] + " " + value[1] + ")) (gc) (print (eq? (ephemeron-key r) "
                    + value[1]
                    + ")) (print (eq? (ephemeron-value r) " + value[1] + "))", "#t\n#t\n");
        }
        scheme().writes("(define r (ephemeron (cons 1 2) 5)) (print (ephemeron-key r)) (print (ephemeron-value r)) (gc)"
                + "(print (ephemeron-key r)) (print (ephemeron-value r))", "(1 . 2)\n5\n#f\n#f\n");
    }

    private static void tables() {
        Check.sentence("table-put! 3 (table, key, value): the entry with this key (by eq?) gets the value, or a new one is made");
        String[] keys = {"0", "1", "-1", "'a", "'b", "#t", "#f", "'()", "car", "cdr", "p", "v", "f1", "w", "e", "t"};
        Check x = scheme();
        for (int i = 0; i < keys.length; i++) {
            x.writes("(table-put! t " + keys[i] + " " + i + ") (print (table-size t))", i + 1 + "\n");
        }
        int cells = x.count(0);
        int objects = x.count(1);
        for (int i = 0; i < keys.length; i++) {
            x.writes("(print (table-get t " + keys[i] + ")) (table-put! t " + keys[i] + " '" + (i + 50)
                    + ") (print (table-size t))",
                    i + "\n" + keys.length + "\n");
        }
        x.counts(0, cells).counts(1, objects);
        x.writes("(table-put! t 0 #f) (print (table-get t 0)) (print (table-size t)) (table-put! t (cons 1 2) 1) (print "
                + "(table-size t))",
                "#f\n16\n17\n");
        Check.sentence("table-get 2: FALSE if there is none");
        x.writes("(print (table-get (table) 1)) (print (table-get t 2)) (print (table-get t (cons 1 2))) (print (table-get t "
                + "'c))",
                "#f\n#f\n#f\n#f\n");
        Check.sentence("table-size 1");
        scheme().writes("(print (table-size (table))) (print (table-size t)) (table-put! t 1 1) (print (table-size t))"
                + "(print (table-size (table)))", "0\n0\n1\n0\n");
        Check.sentence("table 0");
        scheme().writes("(print (table)) (print (eq? (table) (table)))", "#<table>\n#f\n").ends("(table 1)", 7);
    }

    private static void registrations() {
        Check.sentence("finalize! 2 (any object, a procedure with one name, no primitive)");
        scheme().ends("(finalize! p f0)", 9).ends("(finalize! p f2)", 9).ends("(finalize! p car)", 9)
                .ends("(finalize! p print)", 9)
                .ends("(finalize! 1 f1)", 9).ends("(finalize! car f1)", 9).ends("(finalize! '() f1)", 9).counts(4, 0)
                .ends("(finalize! p f1) (finalize! f1 f1) (finalize! t f1)", 0).counts(4, 3);
        Check.sentence("the object is REGISTERED with it, behind all that are (any number of times");
        scheme().ends("(finalize! p f1) (finalize! p f1) (finalize! p (lambda (o) (print 'two))) (finalize! p f1)", 0)
                .counts(4, 4)
                .writes("(finalize! (cons 5 5) (lambda (o) (print 'five))) (define p 0) (define e 0) (define w 0) (gc)",
                "two\nfive\n").counts(4, 0);
        Check.sentence("at most 500 registrations and what is in the queue together: else 11)");
        Check x = new Check(2000);
        x.run("(define f (lambda (o) 1)) (define p '(1)) (define many (lambda (n) (while (< 0 n) (finalize! p f) (set! n (- n "
                + "1)))))");
        x.ends("(many 499)", 0).counts(4, 499).ends("(finalize! p f)", 0).counts(4, 500).ends("(finalize! p f)", 11)
                .counts(4, 500);
        x.run("(define waste (lambda (n) (while (< 0 n) (vector 97 0) (set! n (- n 1)))))");
        x.ends("(begin (set! p '(2)) (waste 25) (car 1))", 9).counts(3, 500).counts(4, 0).ends("(finalize! p f)", 11)
                .counts(3, 500).counts(4, 0);
        x.ends("1", 0).counts(3, 0).ends("(many 200)", 0).ends("(begin (set! p '(3)) (waste 25) (car 1))", 9).counts(3, 200)
                .counts(4, 0);
        x.ends("(begin (many 300) (many 1))", 11).counts(3, 200).counts(4, 300);
        // The one that is being called has left the queue.
        Check y = new Check(2000);
        y.run("(define p '(1)) (define f (lambda (o) (finalize! p f) (print 'one-more)))");
        y.run("(define i 0) (while (< i 499) (finalize! p f) (set! i (+ i 1)))");
        y.writes("(finalize! '(2) f) (gc)", "one-more\n").counts(4, 500).counts(3, 0);
    }

    private static void numbersOfIdentity() {
        Check.sentence("hash 1: of an object its NUMBER: 1, 2, .. in the order in which they were first asked (none is given "
                + "twice)");
        Check x = scheme();
        x.counts(8, 0).writes("(print (hash v)) (print (hash p)) (print (hash v)) (print (hash t)) (print (hash p))",
                "1\n2\n1\n3\n2\n").counts(8, 3);
        x.writes("(print (hash (cons 1 2))) (gc) (print (hash (cons 1 2))) (gc) (print (hash v)) (print (hash w))",
                "4\n5\n1\n6\n").counts(8, 6);
        x.ends("(begin (hash e) (car 1))", 9).counts(8, 7).writes("(print (hash f0)) (print (hash e))", "8\n7\n");
        Check.sentence("of others 0");
        scheme().writes("(print (hash 5)) (print (hash 'a)) (print (hash #t)) (print (hash #f)) (print (hash '())) (print (hash "
                + "car))",
                "0\n0\n0\n0\n0\n0\n").counts(8, 0);
    }

    private static void cellsInUse() {
        Check.sentence("cells 0: how many are in use");
        new Check(100).writes("(print (cells)) (cons 1 2) (print (cells)) (vector 93 0) (print (cells)) (gc) (print (cells))",
                "0\n4\n100\n0\n");
    }

    private static void results() {
        Check.sentence("gc, print and those with ! give NIL.");
        scheme().writes("(print (null? (gc))) (print (null? (set-car! p 1))) (print (null? (set-cdr! p 1))) (print (null? "
                + "(vector-put! v 0 1)))"
                + "(print (null? (table-put! t 1 2))) (print (null? (table-put! t 1 3))) (print (null? (finalize! p f1)))",
                "#t\n#t\n#t\n#t\n#t\n#t\n#t\n").writes("(print (null? (print 1)))", "1\n#t\n");
    }
}
