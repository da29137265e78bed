/** Promise 5: fetch, and what print writes. */
public final class PrintTest {
    public static void main(String[] args) {
        values();
        pairs();
        nesting();
        parts();
        partsInBrackets();
        rings();
        fetching();
        fourThousandBytes();
        theBytesGoRound();
        Check.end();
    }

    private static Check scheme() {
        return new Check(5000);
    }

    private static void values() {
        scheme().writes("(print 0) (print -1) (print 10) (print 1234567890) (print 2147483647) (print -2147483648)",
                        "0\n-1\n10\n1234567890\n2147483647\n-2147483648\n")
                .writes("(print #t) (print #f) (print '()) (print 'a) (print 'abcdefghijklmnopqrst) (print '-)",
                        "#t\n#f\n()\na\nabcdefghijklmnopqrst\n-\n")
                .writes("(print car) (print (lambda () 1)) (print (vector 1 1)) (print (weak 1)) (print (ephemeron 1 1))"
                        + "(print (table))", "#<procedure>\n#<procedure>\n#<vector>\n#<weak>\n#<ephemeron>\n#<table>\n")
                .writes("(print 'if) (print 'print) (print ''x)", "if\nprint\n(quote x)\n");
    }

    private static void pairs() {
        scheme().writes("(print '(1)) (print '(1 2 3)) (print (cons 1 2)) (print (cons 1 (cons 2 3)))",
                        "(1)\n(1 2 3)\n(1 . 2)\n(1 2 . 3)\n")
                .writes("(print (cons '() '())) (print (cons (cons 1 2) (cons 3 4))) (print '((1) (2 (3)) ()))",
                        "(())\n((1 . 2) 3 . 4)\n((1) (2 (3)) ())\n")
                .writes("(print (cons 1 #f)) (print (cons car (table)))", "(1 . #f)\n(#<procedure> . #<table>)\n");
    }

    private static String nested(int deep) {
        return "(".repeat(deep) + "1" + ")".repeat(deep);
    }

    private static void nesting() {
        scheme().writes("(print '" + nested(9) + ")", nested(9) + "\n")
                .writes("(print '" + nested(10) + ")", nested(10) + "\n")
                .writes("(print '" + nested(11) + ")", "(".repeat(10) + "..." + ")".repeat(10) + "\n")
                .writes("(print '" + nested(25) + ")", "(".repeat(10) + "..." + ")".repeat(10) + "\n")
                .writes("(print '" + "(".repeat(10) + "(1) 2 (3 4) ()" + ")".repeat(10) + ")",
                        "(".repeat(10) + "... 2 ... ()" + ")".repeat(10) + "\n")
                // A list's own rest is in no more brackets than its first element.
                .writes("(print '" + "(".repeat(10) + "1 2 3" + ")".repeat(10) + ")",
                        "(".repeat(10) + "1 2 3" + ")".repeat(10) + "\n")
                .writes("(print (cons 1 '(2 (3 4))))", "(1 2 (3 4))\n");
    }

    private static String row(int from, int to) {
        StringBuilder row = new StringBuilder();
        for (int i = from; i <= to; i++) {
            row.append(i == from ? "" : " ").append(i);
        }
        return row.toString();
    }

    private static void parts() {
        Check x = scheme();
        x.writes("(print '(" + row(1, 39) + "))", "(" + row(1, 39) + ")\n");
        x.writes("(print '(" + row(1, 40) + "))", "(" + row(1, 40) + ")\n");
        x.writes("(print '(" + row(1, 41) + "))", "(" + row(1, 40) + " ...)\n");
        x.writes("(print '(" + row(1, 90) + "))", "(" + row(1, 40) + " ...)\n");
        x.run("(define upto (lambda (n rest) (while (< 0 n) (set! rest (cons n rest)) (set! n (- n 1))) rest))");
        x.writes("(print (upto 39 'x))", "(" + row(1, 39) + " . x)\n");
        x.writes("(print (upto 40 'x))", "(" + row(1, 40) + " . ...)\n");
        x.writes("(print (upto 41 'x))", "(" + row(1, 40) + " ...)\n");
        x.writes("(print (upto 38 '(() #t car)))", "(" + row(1, 38) + " () #t ...)\n");
        x.writes("(print (upto 39 '(()))) (print (upto 40 '()))", "(" + row(1, 39) + " ())\n(" + row(1, 40) + ")\n");
    }

    private static void partsInBrackets() {
        Check x = scheme();
        x.run("(define upto (lambda (n rest) (while (< 0 n) (set! rest (cons n rest)) (set! n (- n 1))) rest))");
        x.writes("(print (upto 39 '((a) b)))", "(" + row(1, 39) + " (a) ...)\n");
        x.writes("(print (upto 40 '((a) b)))", "(" + row(1, 40) + " (...))\n");
        x.writes("(print (upto 40 '(((a)) b)))", "(" + row(1, 40) + " ((...)))\n");
        x.writes("(print (upto 39 '((a b) c)))", "(" + row(1, 39) + " (a ...))\n");
        x.writes("(print (upto 39 '((a (b)) c)))", "(" + row(1, 39) + " (a (...)))\n");
        x.writes("(print (cons (upto 39 'x) 'y))", "((" + row(1, 39) + " . x) . ...)\n");
        x.writes("(print (cons (upto 40 '()) '(y)))", "((" + row(1, 40) + ") ...)\n");
        x.writes("(print (cons (upto 40 '()) '()))", "((" + row(1, 40) + "))\n");
        x.writes("(print (cons (upto 41 '()) 5))", "((" + row(1, 40) + " ...))\n");
        // A pair in ten brackets is a part: the 41st one, too, is written as ...
        String ten = "(".repeat(9);
        x.writes("(print '" + ten + "(" + row(1, 39) + " (a) (b))" + ")".repeat(9) + ")",
                ten + "(" + row(1, 39) + " ... ...)" + ")".repeat(9) + "\n");
        x.writes("(print '" + ten + "(" + row(1, 39) + " (a) b)" + ")".repeat(9) + ")",
                ten + "(" + row(1, 39) + " ... ...)" + ")".repeat(9) + "\n");
        x.writes("(print '" + ten + "(" + row(1, 38) + " (a) b)" + ")".repeat(9) + ")",
                ten + "(" + row(1, 38) + " ... b)" + ")".repeat(9) + "\n");
    }

    private static void rings() {
        Check x = scheme();
        x.run("(define r (cons 1 2)) (set-cdr! r r) (define q (cons 1 2)) (set-car! q q)");
        x.writes("(print r)", "(" + "1 ".repeat(40) + "...)\n");
        x.writes("(print q)", "(".repeat(10) + "... . 2" + ") . 2".repeat(9) + ")\n");
        x.run("(set-car! r r)");
        x.writes("(print r)", "(".repeat(10) + "... ".repeat(40) + "..." + ")".repeat(10) + "\n");
    }

    private static void fetching() {
        Check x = scheme();
        Check.due("nothing", x.scheme().fetch(), 0L);
        x.run("(print 'abcdef) (print 'ghi)");
        x.counts(6, 11);
        Check.due("seven", x.scheme().fetch(), 0x076162636465660AL);
        x.counts(6, 4);
        Check.due("the rest", x.scheme().fetch(), 0x046768690A000000L);
        x.counts(6, 0);
        Check.due("nothing", x.scheme().fetch(), 0L);
        x.run("(print 1)");
        Check.due("two", x.scheme().fetch(), 0x02310A0000000000L);
        x.run("(print 1)");
        x.run("(car (print 234))");
        Check.due("of both runs", x.scheme().fetch(), 0x06310A3233340A00L);
        x.fails("(print 1) )", 1, 10);
        Check.due("nothing", x.scheme().fetch(), 0L);
    }

    private static void fourThousandBytes() {
        Check x = scheme();
        x.run("(define fill (lambda (n) (while (< 0 n) (print 1234567) (set! n (- n 1)))))");
        x.run("(fill 499) (print 'abc)");
        x.counts(6, 3996);
        x.ends("(print '(12 34))", 0);
        x.counts(6, 4000);
        x.ends("(print 5) (print '())", 0);
        x.counts(6, 4000);
        Check.due("the first 4000", x.output(), "1234567\n".repeat(499) + "abc\n(12 ");
        x.counts(6, 0);
        x.writes("(print '(12 34))", "(12 34)\n");
        x.run("(fill 500)");
        x.counts(6, 4000);
        x.run("(print 1)");
        Check.due("seven are taken", x.scheme().fetch(), 0x0731323334353637L);
        x.counts(6, 3993);
        x.run("(print 87654321)");
        x.counts(6, 4000);
        Check.due("what fitted", x.output(), "\n" + "1234567\n".repeat(499) + "8765432");
    }

    private static void theBytesGoRound() {
        Check x = scheme();
        x.run("(define fill (lambda (n) (while (< 0 n) (print 1234567) (set! n (- n 1)))))");
        for (int i = 0; i < 9; i++) {
            x.run("(fill 300) (print 'x)");
            Check.due("round " + i, x.output(), "1234567\n".repeat(300) + "x\n");
        }
    }
}
