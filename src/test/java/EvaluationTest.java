/** Promise 3: running, the fuel, and the faults 4 FUEL to 8 DEEP. */
public final class EvaluationTest {
    public static void main(String[] args) {
        whatTheReadmeShows();
        atomsAndNames();
        quote();
        conditions();
        assignments();
        procedures();
        lets();
        loops();
        andOr();
        callFaults();
        theOrderOfEvaluation();
        fuelOfEachForm();
        fuelRunsOut();
        deepCalls();
        whatWasDoneStaysDone();
        Check.end();
    }

    private static Check scheme() {
        return new Check(2000);
    }

    private static void whatTheReadmeShows() {
        WeakScheme x = new WeakScheme(2000);
        Check.due("feed", x.feed(0x28707269, 0x6E742028, 0x2B203120, 0x32292920, 0x20202020), true);
        Check.due("run", x.run(20, 1000), 0);
        Check.due("place", x.place(), -1);
        Check.due("fetch", x.fetch(), 0x02330A0000000000L);
        Check.due("count", x.count(0), 0);
    }

    private static void atomsAndNames() {
        scheme().writes("(print 5) (print -5) (print #t) (print #f) (print car)", "5\n-5\n#t\n#f\n#<procedure>\n")
                .ends("a", 5)
                .ends("(define a 1)", 0)
                .ends("a", 0)
                .ends("(lambda (x) unknown)", 0)
                .ends("((lambda (x) unknown) 1)", 5)
                .ends("b", 5)
                .ends("'(b)", 0)
                .ends("b", 5)
                .writes("(define car 5) (print car)", "5\n")
                .ends("(car '(1))", 6)
                .writes("(print (cdr '(1)))", "()\n");
    }

    private static void quote() {
        scheme().writes("(print (quote a)) (print '5) (print '#f) (print '()) (print ''a)", "a\n5\n#f\n()\n(quote a)\n")
                .writes("(print '(a (b (c) d)))", "(a (b (c) d))\n")
                .writes("(print (eq? 'a 'a)) (print (eq? 'a 'b)) (print (eq? '() '()))", "#t\n#f\n#t\n")
                .writes("(define f (lambda () '(1 2))) (print (eq? (f) (f)))", "#f\n")
                .writes("(define p (f)) (set-car! p 9) (print p) (print (f))", "(9 2)\n(1 2)\n")
                .writes("(print (car '(if 1))) (print (eq? (car '(if 1)) 'if))", "if\n#t\n");
    }

    private static void conditions() {
        scheme().writes("(print (if #t 1 2)) (print (if #f 1 2)) (print (if #t 1)) (print (if #f 1))", "1\n2\n1\n()\n")
                .writes("(print (if 0 1 2)) (print (if '() 1 2)) (print (if 'a 1 2)) (print (if car 1 2))", "1\n1\n1\n1\n")
                .writes("(if #t (print 1) (print 2)) (if #f (print 3) (print 4)) (if #f (print 5))", "1\n4\n")
                .writes("(print (if (< 1 2) (if #f 1 2) 3))", "2\n")
                .writes("(print (if #f (and) (if #t #f)))", "#f\n");
    }

    private static void assignments() {
        scheme().writes("(define a 1) (print a)", "1\n")
                .writes("(print (set! a 2)) (print a)", "()\n2\n")
                .ends("(set! z 1)", 5)
                .ends("z", 5)
                .writes("(define n 0) (print n)", "0\n")
                .ends("(set! z (set! n 7))", 5)
                .writes("(print n)", "7\n")
                .writes("(define car cdr) (print (car '(1 2)))", "(2)\n")
                .writes("(define g (lambda (a) (set! a (+ a 1)) a)) (print (g 5)) (print a)", "6\n2\n")
                .writes("(define h (lambda (b) (set! a b) a)) (print (h 8)) (print a)", "8\n8\n")
                .writes("(let ((a 1)) (let ((b 2)) (set! a b) (set! b 3) (print a) (print b)) (print a)) (print a)",
                        "2\n3\n2\n8\n")
                .writes("(define a a) (set! a (+ a a)) (print a)", "16\n");
    }

    private static void procedures() {
        scheme().writes("(print ((lambda (x y) (- x y)) 5 3))", "2\n")
                .writes("(print ((lambda () 1 2 3)))", "3\n")
                .writes("((lambda (x) (print x) (print (+ x 1)) x) 4)", "4\n5\n")
                .writes("(define add (lambda (n) (lambda (m) (+ n m)))) (define add5 (add 5)) (print (add5 3))", "8\n")
                .writes("(define counter (lambda (n) (lambda () (set! n (+ n 1)) n))) (define c (counter 0))"
                        + " (define d (counter 10)) (c) (c) (d) (print (c)) (print (d))", "3\n12\n")
                .writes("(define fact (lambda (n) (if (< n 2) 1 (* n (fact (- n 1)))))) (print (fact 10))", "3628800\n")
                .writes("(print ((lambda (a b c d e f g h) (cons a h)) 1 2 3 4 5 6 7 8))", "(1 . 8)\n")
                .writes("(define x 1) (define f (lambda () x)) (print ((lambda (x) (f)) 2)) (set! x 3) (print (f))",
                        "1\n3\n")
                .writes("(print ((lambda (x) ((lambda (x) x) 2)) 1))", "2\n")
                .writes("(print ((if #f car cdr) '(1 2)))", "(2)\n");
    }

    private static void lets() {
        scheme().writes("(print (let () 1)) (print (let ((x 1)) 2 x)) (print (let ((x 1) (y 2)) (+ x y)))", "1\n1\n3\n")
                .writes("(define x 5) (print (let ((x 1) (y x)) y)) (print x)", "5\n5\n")
                .writes("(print (let ((x 1)) (let ((x 2) (y x)) (cons x y))))", "(2 . 1)\n")
                .writes("(print (let ((a 1) (b 2) (c 3) (d 4) (e 5) (f 6) (g 7) (h 8)) (- h a)))", "7\n")
                .writes("(define f (let ((n 0)) (lambda () (set! n (+ n 1)) n))) (f) (print (f))", "2\n")
                .ends("(let ((y 1)) z)", 5)
                .ends("(begin (let ((zz 1)) zz) zz)", 5)
                .ends("(let ((aa 1) (bb aa)) 1)", 5);
    }

    private static void loops() {
        scheme().writes("(define i 0) (print (while (< i 3) (print i) (set! i (+ i 1))))", "0\n1\n2\n()\n")
                .writes("(print (while #f (print 1)))", "()\n")
                .writes("(define n 3) (print (while (begin (set! n (- n 1)) (< 0 n)))) (print n)", "()\n0\n")
                .writes("(print (begin 1)) (print (begin 1 2 3)) (begin (print 1) (print 2))", "1\n3\n1\n2\n")
                .writes("(define j 0) (while (< j 2) (let ((k 0)) (while (< k 2) (print (+ (* 10 j) k))"
                        + " (set! k (+ k 1)))) (set! j (+ j 1)))", "0\n1\n10\n11\n");
    }

    private static void andOr() {
        scheme().writes("(print (and)) (print (and 1)) (print (and 1 2)) (print (and 1 #f 2)) (print (and #f))",
                        "#t\n1\n2\n#f\n#f\n")
                .writes("(print (or)) (print (or 1)) (print (or #f 2 3)) (print (or #f #f)) (print (or '() 1))",
                        "#f\n1\n2\n#f\n()\n")
                .writes("(and (print 1) #f (print 2)) (or #f (print 3) (print 4)) (print (or #f (and 1 #f) 7))",
                        "1\n3\n7\n")
                .writes("(print (and 1 2 3 4 5 6 7 8 9 10 11 12)) (print (or #f #f #f #f #f #f #f #f #f #f #f 12))",
                        "12\n12\n");
    }

    private static void callFaults() {
        scheme().ends("(1 2)", 6)
                .ends("('a)", 6)
                .ends("(#f)", 6)
                .ends("('())", 6)
                .ends("('(1) 1)", 6)
                .ends("((cons 1 2))", 6)
                .ends("((table) 1)", 6)
                .ends("((weak car) '(1))", 6)
                .ends("((vector 1 1) 0)", 6)
                .ends("((lambda (x) x))", 7)
                .ends("((lambda (x) x) 1 2)", 7)
                .ends("((lambda () 1) 1)", 7)
                .ends("((lambda (a b c d e f g h) 1) 1 2 3 4 5 6 7)", 7)
                .ends("(car)", 7)
                .ends("(car '(1) '(2))", 7)
                .ends("(gc 1)", 7)
                .ends("(car 1 2)", 7)
                .ends("(quotient 1 0 1)", 7);
    }

    private static void theOrderOfEvaluation() {
        scheme().writes("((begin (print 1) +) (begin (print 2) 1) (begin (print 3) 1))", "1\n2\n3\n")
                .writes("(let ((a (print 1)) (b (print 2))) (print 3))", "1\n2\n3\n")
                .ends("(1 unknown)", 5)
                .ends("(unknown (car 1))", 5)
                .ends("((car 1) unknown)", 9)
                .ends("(car unknown unknown)", 5)
                .writes("(define a 1) (print (cons a (begin (set! a 2) a)))", "(1 . 2)\n")
                .writes("(define f (lambda (x) (print 1) x)) (print ((begin (print 0) f) (begin (set! f car) 7)))",
                        "0\n1\n7\n");
        Check x = scheme();
        Check.due("a run", x.run("(print 1) (print 2) (car 1) (print 3)"), 9);
        Check.due("until the fault", x.output(), "1\n2\n");
    }

    /** What one evaluation takes, found by what the run left. */
    private static void takes(String text, int fuel) {
        Check x = scheme();
        x.run("(define n 0) (define f (lambda () 1)) (define g (lambda (x) x x))");
        Check.due(text, x.run(text, 1000) + " with " + (1000 - x.count(7)), "0 with " + fuel);
        Check y = scheme();
        y.run("(define n 0) (define f (lambda () 1)) (define g (lambda (x) x x))");
        Check.due(text + " with just enough", y.run(text, fuel), 0);
        Check.due("left", y.count(7), 0);
        Check z = scheme();
        z.run("(define n 0) (define f (lambda () 1)) (define g (lambda (x) x x))");
        Check.due(text + " with one less", z.run(text, fuel - 1), 4);
        Check.due("left", z.count(7), 0);
    }

    private static void fuelOfEachForm() {
        takes("1", 1);
        takes("n", 1);
        takes("#t", 1);
        takes("'(1 2 3)", 1);
        takes("1 2", 2);
        takes("(if #t 1 2)", 3);
        takes("(if #f 1 2)", 3);
        takes("(if #f 1)", 2);
        takes("(set! n 5)", 2);
        takes("(define m 5)", 2);
        takes("(lambda (x) x)", 1);
        takes("(let () 1)", 2);
        takes("(let ((x 1) (y n)) x y)", 5);
        takes("(begin 1)", 2);
        takes("(begin 1 2)", 3);
        takes("(while #f 1)", 2);
        takes("(while (< n 2) (set! n (+ n 1)))", 1 + 3 * 4 + 2 * 5);
        takes("(and)", 1);
        takes("(and 1 #f 1)", 3);
        takes("(or)", 1);
        takes("(or 1 1 1)", 2);
        takes("(f)", 3);
        takes("(g 1)", 5);
        takes("(+ 1 2)", 4);
        takes("((lambda (x) x) 1)", 4);
    }

    private static void fuelRunsOut() {
        Check x = scheme();
        Check.due("no fuel, no data", x.run("", 0), 0);
        Check.due("no fuel", x.run("1", 0), 4);
        Check.due("no fuel for e", x.run("(define a 1)", 1), 4);
        x.ends("a", 5);
        Check.due("all of it", x.run("(while #t)", 20000), 4);
        x.counts(7, 0);
        Check.due("and again", x.run("(define f (lambda () (f))) (while #t 1)", 3000), 4);
        Check.due("a name that is unbound takes its fuel, too", x.run("unknown", 1), 5);
        x.counts(7, 0);
        Check.due("fuel comes first", x.run("unknown", 0), 4);
        Check.due("the rest is told with a fault, too", x.run("(car 1)", 10), 9);
        x.counts(7, 7);
    }

    private static void deepCalls() {
        Check x = new Check(20000);
        x.run("(define down (lambda (n) (if (< n 2) n (+ 1 (down (- n 1))))))");
        x.writes("(print (down 1)) (print (down 60))", "1\n60\n");
        x.ends("(down 61)", 8);
        x.ends("(begin (down 60) (down 60) (down 61))", 8);
        x.writes("(print (down 60))", "60\n");
        x.writes("(print ((lambda () (down 59))))", "59\n");
        x.ends("((lambda () (down 60)))", 8);
        // What is a call's last step stands in it, too; primitives, lets and other forms do not count.
        x.run("(define tail (lambda (n) (if (< n 2) n (tail (- n 1)))))");
        x.writes("(print (tail 60))", "1\n");
        x.ends("(tail 61)", 8);
        x.writes("(print (let ((a 1)) (begin (and (or (+ 0 (+ 0 (tail 60))))))))", "1\n");
        // The arguments are evaluated ahead of the call.
        x.writes("(print (tail (tail (tail 60))))", "1\n");
        x.ends("(tail (begin (tail 60) 61))", 8);
        // COUNT comes ahead of DEEP.
        x.run("(define odd (lambda (n) (if (< n 2) (odd) (odd (- n 1)))))");
        x.ends("(odd 60)", 7);
        x.ends("(odd 61)", 8);
        // DEEP comes ahead of the frame: 59 times the two lists of each call and the frames fit, no more.
        Check y = new Check(100);
        y.run("(define d (lambda (n) (if (= n 0) 0 (d (- n 1)))))");
        Check.due("24 frames have no room", y.run("(d 23)"), 0);
        Check.due("25 frames have no room", y.run("(d 24)"), 12);
        forms();
    }

    /** 60 calls, each with 28 lists of its body in one another, and each of these with 8 operands. */
    private static void forms() {
        Check x = new Check(20000);
        StringBuilder body = new StringBuilder("(if (< n 2) 1 (f (- n 1)))");
        for (int i = 0; i < 25; i++) {
            body.insert(0, "(h 1 1 1 1 1 1 1 ").append(')');
        }
        x.run("(define h (lambda (a b c d e f g h) h)) (define f (lambda (n) " + body + "))");
        x.writes("(print (f 59))", "1\n");
        x.ends("(f 60)", 8);
    }

    private static void whatWasDoneStaysDone() {
        Check x = scheme();
        x.ends("(define a 1) (define p (cons 1 2)) (set-car! p 7) (print a) (set! a (car 5))", 9);
        Check.due("output", x.output(), "1\n");
        x.writes("(print a) (print p)", "1\n(7 . 2)\n");
    }
}
