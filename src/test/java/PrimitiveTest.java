/** Promise 3: the primitives, and the faults 9 TYPE, 10 DIVIDE and 11 RANGE. */
public final class PrimitiveTest {
    /** A value of each sort: number, symbol, truth, nil, primitive, and the objects. */
    private static final String[] VALUES = {
        "1", "'a", "#t", "'()", "car", "p", "v", "f1", "w", "e", "t", "f2"
    };
    private static final String DEFINITIONS = "(define p (cons 1 2)) (define v (vector 3 0)) (define f1 (lambda (x) x))"
            + "(define f2 (lambda (x y) x)) (define w (weak p)) (define e (ephemeron p v)) (define t (table))";

    public static void main(String[] args) {
        arithmetic();
        comparisons();
        sorts();
        pairs();
        vectors();
        weakAndEphemeron();
        tables();
        finalizeFaults();
        hash();
        numbersOfOperands();
        operandsOfAllSorts();
        Check.end();
    }

    private static Check scheme() {
        Check x = new Check(2000);
        x.run(DEFINITIONS);
        return x;
    }

    private static void arithmetic() {
        scheme().writes("(print (+ 2 3)) (print (- 2 3)) (print (* -2 3))", "5\n-1\n-6\n")
                .writes("(print (+ 2147483647 1)) (print (- -2147483648 1)) (print (* 65536 65536))",
                        "-2147483648\n2147483647\n0\n")
                .writes("(print (* 2147483647 2147483647)) (print (* -2147483648 -1)) (print (- 0 -2147483648))",
                        "1\n-2147483648\n-2147483648\n")
                .writes("(print (quotient 7 2)) (print (quotient -7 2)) (print (quotient 7 -2)) (print (quotient -7 -2))",
                        "3\n-3\n-3\n3\n")
                .writes("(print (remainder 7 2)) (print (remainder -7 2)) (print (remainder 7 -2)) (print (remainder -7 -2))",
                        "1\n-1\n1\n-1\n")
                .writes("(print (quotient -2147483648 -1)) (print (remainder -2147483648 -1)) (print (quotient 0 5))",
                        "-2147483648\n0\n0\n")
                .ends("(quotient 1 0)", 10)
                .ends("(remainder 0 0)", 10)
                .ends("(quotient 'a 0)", 9)
                .ends("(remainder p 0)", 9)
                .ends("(quotient 0 'a)", 9);
    }

    private static void comparisons() {
        scheme().writes("(print (= 1 1)) (print (= 1 2)) (print (= -1 1)) (print (= 0 -0))", "#t\n#f\n#f\n#t\n")
                .writes("(print (< 1 2)) (print (< 2 1)) (print (< 1 1)) (print (< -2147483648 2147483647))",
                        "#t\n#f\n#f\n#t\n")
                .writes("(print (< 2147483647 -2147483648)) (print (< -1 0)) (print (< 0 -1))", "#f\n#t\n#f\n")
                .writes("(print (eq? 1 1)) (print (eq? 1 2)) (print (eq? 'a 'a)) (print (eq? 'a 'b))", "#t\n#f\n#t\n#f\n")
                .writes("(print (eq? car car)) (print (eq? car cdr)) (print (eq? p p)) (print (eq? (cons 1 2) p))",
                        "#t\n#f\n#t\n#f\n")
                .writes("(print (eq? #t #t)) (print (eq? #f #f)) (print (eq? #f '())) (print (eq? '() '()))",
                        "#t\n#t\n#f\n#t\n")
                .writes("(print (eq? #t #f)) (print (eq? 0 #f)) (print (eq? 1 #t)) (print (eq? '(1) '(1)))",
                        "#f\n#f\n#f\n#f\n")
                .writes("(print (eq? (weak p) (weak p))) (print (eq? (weak-get w) p)) (print (eq? -1 4294967))",
                        "#f\n#t\n#f\n")
                .writes("(define c car) (print (eq? c car)) (define car 1) (print (eq? c car))", "#t\n#f\n");
    }

    private static void sorts() {
        StringBuilder text = new StringBuilder();
        StringBuilder due = new StringBuilder();
        for (String value : VALUES) {
            text.append("(print (not ").append(value).append(")) (print (null? ").append(value)
                    .append(")) (print (pair? ").append(value).append("))");
            due.append("#f\n").append(value.equals("'()") ? "#t\n" : "#f\n").append(value.equals("p") ? "#t\n" : "#f\n");
        }
        scheme().writes(text.toString(), due.toString())
                .writes("(print (not #f)) (print (null? #f)) (print (pair? #f)) (print (pair? '(1)))", "#t\n#f\n#f\n#t\n");
    }

    private static void pairs() {
        scheme().writes("(print (cons 1 2)) (print (car p)) (print (cdr p)) (print (cons 1 '()))", "(1 . 2)\n1\n2\n(1)\n")
                .writes("(print (set-car! p 5)) (print (set-cdr! p '(6))) (print p)", "()\n()\n(5 6)\n")
                .ends("(car '())", 9)
                .ends("(cdr '())", 9)
                .ends("(set-car! '() 1)", 9)
                .writes("(print p)", "(5 6)\n");
    }

    private static void vectors() {
        scheme().writes("(print (vector-size v)) (print (vector-get v 0)) (print (vector-get v 2))", "3\n0\n0\n")
                .writes("(print (vector-put! v 1 'a)) (print (vector-get v 1)) (print (vector-get v 2))", "()\na\n0\n")
                .writes("(print (vector-size (vector 0 1))) (print (vector-size (vector 100 1)))", "0\n100\n")
                .writes("(define u (vector 100 p)) (vector-put! u 99 5) (print (vector-get u 98)) (print (vector-get u 99))",
                        "(1 . 2)\n5\n")
                .ends("(vector 101 0)", 11)
                .ends("(vector -1 0)", 11)
                .ends("(vector 2147483647 0)", 11)
                .ends("(vector -2147483648 0)", 11)
                .ends("(vector 'a 0)", 9)
                .ends("(vector-get v 3)", 11)
                .ends("(vector-get v -1)", 11)
                .ends("(vector-get v 2147483647)", 11)
                .ends("(vector-get v -2147483648)", 11)
                .ends("(vector-get (vector 0 1) 0)", 11)
                .ends("(vector-put! v 3 0)", 11)
                .ends("(vector-put! v -1 0)", 11)
                .ends("(vector-get v 'a)", 9)
                .ends("(vector-put! v #f 0)", 9)
                .ends("(vector-put! p 9 0)", 9)
                .writes("(print (vector-get v 0)) (print (vector-get v 1)) (print (vector-size v))", "0\na\n3\n");
    }

    private static void weakAndEphemeron() {
        scheme().writes("(print (weak-get w)) (print (weak-get (weak 5))) (print (weak-get (weak #f)))", "(1 . 2)\n5\n#f\n")
                .writes("(print (ephemeron-key e)) (print (ephemeron-value e))", "(1 . 2)\n#<vector>\n")
                .writes("(print (ephemeron-value (ephemeron 1 'x))) (print (ephemeron-key (ephemeron '() 2)))", "x\n()\n");
    }

    private static void tables() {
        scheme().writes("(print (table-size t)) (print (table-get t 1)) (print (table-put! t 1 'one)) (print (table-get t 1))",
                        "0\n#f\n()\none\n")
                .writes("(table-put! t 2 'two) (table-put! t p 'p) (table-put! t 'a 'sym) (table-put! t #f 'false)"
                        + "(table-put! t '() 'nil) (table-put! t car 'prim) (print (table-size t))", "7\n")
                .writes("(print (table-get t 2)) (print (table-get t p)) (print (table-get t 'a)) (print (table-get t #f))"
                        + "(print (table-get t '())) (print (table-get t car)) (print (table-get t 1))",
                        "two\np\nsym\nfalse\nnil\nprim\none\n")
                .writes("(table-put! t p 'q) (table-put! t 1 #f) (print (table-size t)) (print (table-get t p))"
                        + "(print (table-get t 1))", "7\nq\n#f\n")
                .writes("(print (table-get t (cons 1 2))) (print (table-get t cdr)) (print (table-get t t))", "#f\n#f\n#f\n")
                .writes("(table-put! t t t) (print (table-get t t)) (print (table-size (table)))", "#<table>\n0\n");
    }

    private static void finalizeFaults() {
        scheme().ends("(finalize! p f2)", 9)
                .ends("(finalize! p car)", 9)
                .ends("(finalize! p print)", 9)
                .ends("(finalize! p (lambda () 1))", 9)
                .ends("(finalize! 1 f1)", 9)
                .ends("(finalize! 'a f1)", 9)
                .ends("(finalize! '() f1)", 9)
                .ends("(finalize! car f1)", 9)
                .ends("(finalize! p 1)", 9)
                .counts(4, 0)
                .writes("(print (finalize! p f1)) (finalize! v f1) (finalize! w f1) (finalize! e f1) (finalize! t f1)"
                        + "(finalize! f1 f1) (finalize! f2 f1) (finalize! p f1)", "()\n")
                .counts(4, 8);
        Check x = new Check(100);
        x.run("(define p '(1)) (define f (lambda (x) x)) (define i 0) (while (< i 500) (finalize! p f) (set! i (+ i 1)))");
        x.counts(4, 500).ends("(finalize! p f)", 11).ends("(finalize! p car)", 9).counts(4, 500);
    }

    private static void hash() {
        scheme().writes("(print (hash v)) (print (hash p)) (print (hash v)) (print (hash p)) (print (hash t))", "1\n2\n1\n2\n3\n")
                .writes("(print (hash 5)) (print (hash 'a)) (print (hash car)) (print (hash #t)) (print (hash '()))",
                        "0\n0\n0\n0\n0\n")
                .writes("(print (hash (cons 1 2))) (print (hash f1)) (print (hash w)) (print (hash e))", "4\n5\n6\n7\n")
                .counts(8, 7)
                .writes("(gc) (print (hash (cons 1 2))) (print (hash v))", "8\n1\n")
                .counts(8, 8);
    }

    private static void numbersOfOperands() {
        String[] primitives = ("+ 2 - 2 * 2 quotient 2 remainder 2 = 2 < 2 eq? 2 not 1 null? 1 pair? 1 cons 2 car 1 cdr 1 "
                + "set-car! 2 set-cdr! 2 vector 2 vector-get 2 vector-put! 3 vector-size 1 weak 1 weak-get 1 ephemeron 2 "
                + "ephemeron-key 1 ephemeron-value 1 table 0 table-put! 3 table-get 2 table-size 1 finalize! 2 hash 1 "
                + "gc 0 cells 0 print 1").split(" ");
        for (int i = 0; i < primitives.length; i += 2) {
            Check x = scheme();
            for (int many = 0; many <= 8; many++) {
                String call = "(" + primitives[i] + " f2".repeat(many) + ")";
                int fault = x.run(call);
                Check.due(call + " is a fault 7", fault == 7, many != Integer.parseInt(primitives[i + 1]));
            }
        }
    }

    /** Each operand of each primitive that takes only one sort, with a value of each sort; the others are right. */
    private static void operandsOfAllSorts() {
        String[][] calls = {
            {"(+ @ 1)", "1"}, {"(+ 1 @)", "1"}, {"(- @ 1)", "1"}, {"(- 1 @)", "1"}, {"(* @ 1)", "1"}, {"(* 1 @)", "1"},
            {"(quotient @ 1)", "1"}, {"(quotient 1 @)", "1"}, {"(remainder @ 1)", "1"}, {"(remainder 1 @)", "1"},
            {"(= @ 1)", "1"}, {"(= 1 @)", "1"}, {"(< @ 1)", "1"}, {"(< 1 @)", "1"}, {"(car @)", "p"}, {"(cdr @)", "p"},
            {"(set-car! @ 1)", "p"}, {"(set-cdr! @ 1)", "p"}, {"(vector @ 1)", "1"}, {"(vector-get @ 1)", "v"},
            {"(vector-get v @)", "1"}, {"(vector-put! @ 1 1)", "v"}, {"(vector-put! v @ 1)", "1"}, {"(vector-size @)", "v"},
            {"(weak-get @)", "w"}, {"(ephemeron-key @)", "e"}, {"(ephemeron-value @)", "e"}, {"(table-put! @ 1 1)", "t"},
            {"(table-get @ 1)", "t"}, {"(table-size @)", "t"}, {"(finalize! p @)", "f1"},
            {"(finalize! @ f1)", "p v f1 w e t f2"}, {"(eq? @ 1)", null}, {"(eq? 1 @)", null}, {"(not @)", null},
            {"(null? @)", null}, {"(pair? @)", null}, {"(cons @ 1)", null}, {"(cons 1 @)", null}, {"(set-car! p @)", null},
            {"(set-cdr! p @)", null}, {"(vector 1 @)", null}, {"(vector-put! v 1 @)", null}, {"(weak @)", null},
            {"(ephemeron @ 1)", null}, {"(ephemeron 1 @)", null}, {"(table-put! t @ 1)", null}, {"(table-put! t 1 @)", null},
            {"(table-get t @)", null}, {"(hash @)", null}, {"(print @)", null}
        };
        for (String[] call : calls) {
            Check x = scheme();
            for (String value : VALUES) {
                boolean right = call[1] == null || java.util.Arrays.asList(call[1].split(" ")).contains(value);
                x.ends(call[0].replace("@", value), right ? 0 : 9);
            }
        }
    }
}
