/** 'Terms', VALUES and RUNNING: a test for each sentence that names a bound, an empty or full one, or a fault. */
public final class RunningSentencesTest {
    public static void main(String[] args) {
        values();
        globals();
        fuel();
        names();
        quotes();
        conditions();
        assignments();
        lambdasAndLets();
        loops();
        andOr();
        calls();
        deepCalls();
        deepCallsOfTheQueue();
        framesOfCalls();
        Check.end();
    }

    private static Check scheme() {
        return new Check(2000);
    }

    private static void values() {
        Check.sentence("NUMBERS (32 bits, all wraps)");
        scheme().writes("(print (+ 2147483647 1)) (print (- -2147483648 1)) (print (* 2147483647 2)) (print (* 65536 65536))",
                        "-2147483648\n2147483647\n-2\n0\n")
                .writes("(print (+ -2147483648 -2147483648)) (print (- 0 -2147483648)) (print (* -2147483648 -2147483648))",
                        "0\n-2147483648\n0\n");
        Check.sentence("PAIR 4; VECTOR of n 3 + n; PROCEDURE 4; FRAME of n values 3 + n (with names, and the frame around it, or "
                + "none); WEAK 3; EPHEMERON 4; TABLE 3; ENTRY 5 (of a table).");
        cells("(cons 1 2)", 4, 1);
        cells("(vector 0 1)", 3, 1);
        cells("(vector 1 1)", 4, 1);
        cells("(vector 100 1)", 103, 1);
        cells("(lambda (a b c d e f g h) 1)", 4, 1);
        cells("(let () 1)", 3, 1);
        cells("(let ((a 1)) 1)", 4, 1);
        cells("(let ((a 1) (b 2) (c 3) (d 4) (e 5) (f 6) (g 7) (h 8)) 1)", 11, 1);
        cells("((lambda () 1))", 4 + 3, 2);
        cells("((lambda (a b c d e f g h) 1) 1 2 3 4 5 6 7 8)", 4 + 11, 2);
        cells("(weak 1)", 3, 1);
        cells("(ephemeron 1 2)", 4, 1);
        cells("(table)", 3, 1);
        cells("(table-put! (table) 1 2)", 8, 2);
        cells("1 #t 'a '() car (+ 1 2)", 0, 0);
        Check.sentence("All but FALSE count as true.");
        String[] others = {
            "0", "-1", "#t", "'()", "'a", "car", "(lambda () #f)", "(cons #f #f)", "(vector 0 #f)", "(weak #f)",
            "(ephemeron #f #f)", "(table)"
        };
        scheme().writes("(print (if #f 1 2)) (print (and #f 1)) (print (or #f 1)) (print (while #f)) (print (not #f))",
                "2\n#f\n1\n()\n#t\n");
        for (String other : others) {
            scheme().writes("(print (if " + other + " 1 2)) (print (and " + other + " 1)) (print (pair? (or " + other + " 1)))",
                    "1\n1\n" + (other.startsWith("(cons") ? "#t" : "#f") + "\n");
        }
    }

    private static void cells(String text, int cells, int objects) {
        new Check(1000).ends(text, 0).counts(0, cells).counts(1, objects);
    }

    private static void globals() {
        Check.sentence("GLOBAL names have values or none; at first the primitives' names have these.");
        String[] primitives = ("+ - * quotient remainder = < eq? not null? pair? cons car cdr set-car! set-cdr! vector "
                + "vector-get "
                + "vector-put! vector-size weak weak-get ephemeron ephemeron-key ephemeron-value table table-put! table-get "
                + "table-size finalize! hash gc cells print").split(" ");
        Check x = scheme();
        for (String primitive : primitives) {
            x.writes("(print " + primitive + ")", "#<procedure>\n");
        }
        x.ends("a", 5).ends(">", 5).ends("list", 5).ends("eq", 5).ends("car!", 5);
        Check.sentence("They stay from run to run, with all objects.");
        Check y = scheme();
        y.ends("(define p (cons 1 2)) (define q p)", 0).ends("(set-car! p 7)", 0).ends("(car 1)", 9).failsAt(1, "@)");
        y.writes("(print q) (print (eq? p q))", "(7 . 2)\n#t\n").counts(0, 4);
        // The procedures of each program, too, and what was refused leaves no trace in them.
        Check z = scheme();
        z.ends("(define f (lambda (n) (if (< n 1) '(end) (cons n (f (- n 1))))))", 0).failsAt(1, "(define f 5) @)")
                .failsAt(3, "(define f 6) @()");
        for (int i = 0; i < 40; i++) {
            z.ends("(define p" + i + " (lambda () '(" + i + ")))", 0);
        }
        z.ends("(define g f) (define f 0) (car 5)", 9).writes("(print (p0)) (print (p17)) (print (p39))", "(0)\n(17)\n(39)\n");
        z.writes("(define f g) (print (g 3))", "(3 2 1 end)\n");
        // Another object has nothing of them.
        scheme().ends("f", 5).counts(0, 0);
    }

    private static void fuel() {
        Check.sentence("The data of a program are EVALUATED one after the other, in no frame.");
        Check x = scheme();
        x.writes("(define a 1) (print a) (set! a 2) (print a)", "1\n2\n").writes("", "");
        x.takes("(define b 1) (let ((b 2)) b) (define c b)", 20, 0, 20 - 2 - 3 - 2).writes("(print c)", "1\n");
        Check.sentence("Each evaluation takes one of the FUEL first: fault 4 FUEL, if there is none.");
        scheme().takes("", 0, 0, 0).takes("1", 0, 4, 0).takes("1", 1, 0, 0).takes("1 2", 1, 4, 0).takes("1 2", 2, 0, 0)
                .takes("unknown", 0, 4, 0).takes("unknown", 1, 5, 0).takes("(1)", 1, 4, 0).takes("(1)", 2, 6, 0)
                .takes("(+ 1 2)", 3, 4, 0).takes("(+ 1 2)", 4, 0, 0).takes("(while #t)", 20000, 4, 0)
                .takes("(while #t)", 7, 4, 0).takes("'(1 (2) 3)", 1, 0, 0);
        Check y = scheme();
        y.takes("(print 1) (print 2) (print 3)", 8, 4, 0);
        Check.due("what was done", y.output(), "1\n2\n");
    }

    private static void names() {
        Check.sentence("A number, #t, #f is its value.");
        scheme().writes("(print 5) (print -2147483648) (print #t) (print #f) (print (eq? 5 5))", "5\n-2147483648\n#t\n#f\n#t\n");
        Check.sentence("A name: its value in the innermost of f, the frame around it, .. that has this name, else the global "
                + "one");
        scheme().writes("(define a 0) (define g (lambda () a)) (let ((a 1)) (let ((b 5)) (print a) (let ((a 2)) (print a)) "
                + "(print (g))))",
                        "1\n2\n0\n")
                .writes("(let ((a 1)) ((lambda (b) (print a) (set! a 3)) 5) (print a)) (print a)", "1\n3\n0\n")
                .writes("(let ((car cdr)) (print (car '(1 2)))) (print (car '(1 2)))", "(2)\n1\n")
                .writes("(let ((a 1) (b 2) (c 3) (d 4) (e 5) (f 6) (g 7) (h 8)) (print a) (print h) (set! h 9) (print h) (print "
                + "g))",
                        "1\n8\n9\n7\n");
        Check.sentence("else fault 5 UNBOUND");
        scheme().ends("a", 5).ends("(let ((b 1)) a)", 5).ends("'a a", 5).ends("(begin (let ((a 1)) a) a)", 5)
                .ends("(let ((x 1) (y x)) y)", 5).ends("((lambda (a) b) 1)", 5).ends("(a 1)", 5).takes("a", 5, 5, 4);
    }

    private static void quotes() {
        Check.sentence("(quote d): d as a value: names are symbols, () NIL, lists pairs, made anew each time");
        Check x = scheme();
        x.writes("(print (eq? 'a 'a)) (print (null? '())) (print (pair? '(a))) (print (pair? '())) (print 'quote)",
                "#t\n#t\n#t\n#f\nquote\n")
                .writes("(define f (lambda () '(1 (2)))) (define p (f)) (set-car! p 5) (print p) (print (f)) (print (eq? (f) "
                + "(f)))",
                        "(5 (2))\n(1 (2))\n#f\n");
        new Check(1000).ends("'()", 0).counts(0, 0).ends("'a", 0).counts(0, 0).ends("'(1)", 0).counts(0, 4).counts(1, 1)
                .ends("'(() ())", 0).counts(1, 3).ends("'((1) 2)", 0).counts(1, 6).ends("''a", 0).counts(1, 8);
        Check.sentence("of a list the last element first, each element ahead of its pair");
        // Where the room ends shows how many were made, the numbers show in which order they stay.
        Check y = new Check(100);
        y.ends("(define v (vector 85 0))", 0).ends("'(1 2 3)", 0).counts(0, 100).counts(2, 0);
        y.ends("'((1) (2))", 12).counts(0, 100).counts(1, 4).counts(2, 2);
    }

    private static void conditions() {
        Check.sentence("if: the first e; then the second, or, if that was FALSE, the third (NIL if there is none)");
        scheme().writes("(print (if #t 1 2)) (print (if #f 1 2)) (print (if #f 1)) (print (if '() 1 2)) (print (if 0 1))",
                "1\n2\n()\n1\n1\n")
                .takes("(if #t 1 unknown)", 9, 0, 6).takes("(if #f unknown 2)", 9, 0, 6).takes("(if #f unknown)", 9, 0, 7)
                .takes("(if unknown 1 2)", 9, 5, 7).writes("(print (if #t #f 2)) (print (if #f 1 #f))", "#f\n#f\n");
    }

    private static void assignments() {
        Check.sentence("set!: e, which then is the name's value, where it is found as above");
        scheme().writes("(define a 1) (set! a (+ a 1)) (print a) (let ((a 5)) (set! a 6) (print a)) (print a)", "2\n6\n2\n")
                .writes("(let ((b 1)) (let ((a 2)) ((lambda (c) (set! a c) (set! b a)) 3) (print a)) (print b)) (print a)",
                "3\n3\n2\n")
                .writes("(let ((a 1)) (let ((a 2)) (set! a 3) (print a)) (print a))", "3\n1\n")
                .writes("(set! car cdr) (print (car '(1 2)))", "(2)\n");
        Check.sentence("(UNBOUND if not, behind e)");
        Check x = scheme();
        x.takes("(set! a (print 1))", 9, 5, 5).ends("a", 5).ends("(set! a (car 1))", 9).ends("(set! a a)", 5)
                .ends("(let ((b 1)) (set! a 1))", 5);
        Check.due("e was evaluated", x.output(), "1\n");
        x.ends("(define a 1)", 0).writes("(set! a 2) (print a)", "2\n");
        Check.sentence("define: e, then the global one; both give NIL (both take one of the fuel, and one for e)");
        scheme().takes("(define a 1)", 2, 0, 0).takes("(define a 2)", 1, 4, 0).writes("(print a)", "1\n")
                .takes("(set! a 3)", 2, 0, 0)
                .takes("(set! a 4)", 1, 4, 0).writes("(print a) (print (set! a 5)) (print a)", "3\n()\n5\n")
                .ends("(define b b)", 5)
                .ends("b", 5).ends("(define c (car 1))", 9).ends("c", 5).writes("(define a (+ a 1)) (print a)", "6\n")
                .writes("(define car 1) (print car)", "1\n");
    }

    private static void lambdasAndLets() {
        Check.sentence("lambda: a PROCEDURE, with f.");
        scheme().writes("(define make (lambda (n) (lambda (m) (set! n (+ n m)) n))) (define a (make 1)) (define b (make 10))"
                        + "(a 1) (b 1) (print (a 1)) (print (b 1)) (print (eq? a b)) (print (eq? (make 1) (make 1)))",
                        "3\n12\n#f\n#f\n")
                .takes("(lambda (x) unknown)", 1, 0, 0).writes("(print (lambda () unknown))", "#<procedure>\n");
        cells("(lambda () (cons 1 2))", 4, 1);
        Check.sentence("let: all e in order; a FRAME is made of these values (of none, too), around it f");
        scheme().writes("(let ((a (print 1)) (b (print 2)) (c (print 3))) (print a))", "1\n2\n3\n()\n")
                .writes("(define x 1) (let ((x 2) (y x)) (print y) (let () (print x)))", "1\n2\n");
        cells("(let () (let () (let () 1)))", 9, 3);
        cells("(begin 1 (begin 2 (begin 3)))", 0, 0);
        Check.sentence("the others are evaluated in it, one after the other, the last one gives the value. begin likewise, in "
                + "f.");
        scheme().writes("(print (let ((a 1)) a 2 (+ a 2))) (print (let () 1)) (print (begin 1)) (print (begin 1 2 3))",
                "3\n1\n1\n3\n")
                .takes("(let ((a 1)) a 2 3)", 9, 0, 4).takes("(begin 1 2 3)", 9, 0, 5).takes("(begin 1)", 2, 0, 0)
                .writes("(print (let ((a 5)) (begin (set! a 6) a)))", "6\n");
    }

    private static void loops() {
        Check.sentence("while: the first e; if it is not FALSE all others, and again; NIL.");
        scheme().writes("(define n 0) (print (while (< n 3) (print n) (set! n (+ n 1)))) (print n)", "0\n1\n2\n()\n3\n")
                .writes("(print (while #f (print 1)))", "()\n").takes("(while #f unknown)", 9, 0, 7).takes("(while #t)", 10, 4, 0)
                .writes("(define m 2) (print (while (begin (set! m (- m 1)) (< 0 m)))) (print m)", "()\n0\n")
                .ends("(while '() (car 1))", 9).takes("(while 0)", 5, 4, 0);
    }

    private static void andOr() {
        Check.sentence("and: one after the other until one is FALSE, which it gives, or the last one (TRUE if there is none)");
        scheme().writes("(print (and)) (print (and 1)) (print (and #f)) (print (and 1 2 '())) (print (and 1 #f 2))",
                "#t\n1\n#f\n()\n#f\n")
                .takes("(and)", 1, 0, 0).takes("(and 1 #f unknown)", 3, 0, 0).takes("(and 1 2 unknown)", 9, 5, 5);
        Check.sentence("or: until one is not FALSE, which it gives, or the last one (FALSE if there is none)");
        scheme().writes("(print (or)) (print (or 1)) (print (or #f)) (print (or #f '() 2)) (print (or #f #f))",
                "#f\n1\n#f\n()\n#f\n")
                .takes("(or)", 1, 0, 0).takes("(or #f 1 unknown)", 3, 0, 0).takes("(or #f #f unknown)", 9, 5, 5);
    }

    private static void calls() {
        Check.sentence("A call: all e in order.");
        scheme().writes("((begin (print 1) cons) (print 2) (print 3))", "1\n2\n3\n").ends("(1 unknown)", 5)
                .ends("(unknown (car 1))", 5)
                .ends("(5 (car 1))", 9).ends("(car unknown 2 3)", 5);
        Check.sentence("The first value must be a procedure or a primitive: else fault 6 CALL");
        for (String value : new String[] {"1", "#t", "#f", "'a", "'car", "'()", "'(1)", "(vector 1 car)", "(weak car)",
                "(ephemeron car car)", "(table)"}) {
            scheme().ends("(" + value + ")", 6).ends("(" + value + " 1 2 3 4 5 6 7 8)", 6);
        }
        scheme().ends("((lambda () 1))", 0).ends("(cells)", 0).ends("((if #t car cdr) '(1))", 0);
        Check.sentence("it must take so many: else fault 7 COUNT");
        String names = "";
        for (int takes = 0; takes <= 8; takes++) {
            for (int given = 0; given <= 8; given++) {
                scheme().ends("((lambda (" + names + ") 1)" + " 1".repeat(given) + ")", given == takes ? 0 : 7);
            }
            names += " n" + takes;
        }
        // Ahead of the sorts of operands.
        scheme().ends("(car)", 7).ends("(car 1 2)", 7).ends("(vector-put! 1 2)", 7).ends("(gc 1)", 7).ends("(quotient 1 0 0)", 7);
    }

    private static Check diver() {
        Check x = new Check(20000);
        x.run("(define dive (lambda (n) (if (< n 2) n (dive (- n 1))))) (define sum (lambda (n) (if (< n 2) n (+ 1 (sum (- n "
                + "1))))))");
        return x;
    }

    private static void deepCalls() {
        Check.sentence("A procedure is CALLED: at most 60 calls of procedures (those of the queue, too) stand in one another: "
                + "else fault 8 DEEP");
        diver().writes("(print (dive 59)) (print (dive 60)) (print (sum 60))", "1\n1\n60\n").ends("(dive 61)", 8)
                .ends("(sum 61)", 8)
                .writes("(print (sum 60))", "60\n").ends("((lambda () (sum 60)))", 8)
                .writes("(print ((lambda () (sum 59))))", "59\n")
                // Those that are through stand no more, nor do primitives and other forms.
                .writes("(print (+ (sum 60) (sum 60))) (print (sum (sum (sum 60)))) (begin (sum 60) (sum 60) (print 1))",
                "120\n60\n1\n")
                .writes("(print (let ((a 1)) (if #t (begin (and 1 (or #f (+ 0 (+ 0 (sum 60)))))))))", "60\n")
                .ends("(sum (begin (sum 60) 61))", 8);
        Check x = diver();
        x.run("(define few (lambda (n) (if (< n 2) (few) (few (- n 1)))))");
        // Ahead of the frame, and behind the number of operands.
        x.ends("(few 60)", 7).ends("(few 61)", 8);
        Check y = new Check(20000);
        y.run("(define f (lambda (n) (if (< n 2) 1 (f (- n 1)))))");
        y.ends("(f 61)", 8).counts(0, 4 + 60 * 4).counts(1, 61);
    }

    private static void deepCallsOfTheQueue() {
        Check.sentence("(those of the queue, too)");
        Check x = diver();
        x.run("(define log (lambda (o) (print o))) (define down (lambda (n) (if (< n 2) (gc) (down (- n 1)))))");
        x.writes("(begin (finalize! '(1) log) (down 59))", "(1)\n");
        x.ends("(begin (finalize! '(1) log) (finalize! '(2) log) (down 60))", 8).counts(3, 1).counts(4, 0);
        x.writes("(print 'next)", "next\n(2)\n").counts(3, 0);
        x.run("(define deep (lambda (o) (print (sum (car o)))))");
        x.writes("(finalize! '(59) deep) (gc)", "59\n").ends("(finalize! '(60) deep) (gc)", 8);
        // One behind the other, they do not stand in one another.
        x.run("(define i 0) (while (< i 70) (finalize! '(5) deep) (set! i (+ i 1)))");
        x.writes("(gc)", "5\n".repeat(70));
    }

    private static void framesOfCalls() {
        Check.sentence("then a FRAME is made of the values, around it the procedure's; its e are evaluated in it");
        scheme().writes("(define x 0) (define f (let ((x 1)) (lambda (y) (print x) (print y) (+ x y)))) (let ((x 5)) (print (f "
                + "7)))",
                        "1\n7\n8\n")
                .writes("(print ((lambda () 1 2 3))) (print ((lambda (a b c d e f g h) (cons a h)) 1 2 3 4 5 6 7 8))",
                "3\n(1 . 8)\n")
                .takes("((lambda () 1 2 3))", 5, 0, 0).takes("((lambda () 1 2 3))", 4, 4, 0);
    }
}
