/** 'Terms', ANSWERS: a test for each sentence. */
public final class AnswerSentencesTest {
    public static void main(String[] args) {
        values();
        pairs();
        parts();
        brackets();
        theOneTooMany();
        bytesThatWait();
        Check.end();
    }

    private static Check scheme() {
        Check x = new Check(4000);
        x.run("(define upto (lambda (n rest) (while (< 0 n) (set! rest (cons n rest)) (set! n (- n 1))) rest))");
        x.run("(define wrap (lambda (n v) (while (< 0 n) (set! v (cons v '())) (set! n (- n 1))) v))");
        return x;
    }

    private static String row(int to) {
        StringBuilder row = new StringBuilder("1");
        for (int i = 2; i <= to; i++) {
            row.append(' ').append(i);
        }
        return row.toString();
    }

    private static String wrapped(int deep, String inside) {
        return "(".repeat(deep) + inside + ")".repeat(deep);
    }

    private static void values() {
        Check.sentence("print writes a value and 10: a number in digits");
        for (int n : new int[] {0, 1, -1, 9, 10, -10, 99, 100, 1000000000, Integer.MAX_VALUE, Integer.MIN_VALUE,
                Integer.MIN_VALUE + 1}) {
            scheme().writes("(print " + n + ")", n + "\n");
        }
        Check.sentence("#t #f (); a symbol's name");
        scheme().writes("(print #t) (print #f) (print '()) (print 'a) (print 'abcdefghijklmnopqrst) (print '+) (print 'if) "
                + "(print 'print)",
                "#t\n#f\n()\na\nabcdefghijklmnopqrst\n+\nif\nprint\n");
        Check.sentence("#<procedure> (also a primitive), #<vector> #<weak> #<ephemeron> #<table>");
        scheme().writes("(print (lambda () 1)) (print print) (print (vector 0 0)) (print (weak 1)) (print (ephemeron 1 2)) "
                + "(print (table))",
                "#<procedure>\n#<procedure>\n#<vector>\n#<weak>\n#<ephemeron>\n#<table>\n");
        scheme().writes("(define w (weak (cons 1 2))) (define e (ephemeron (cons 1 2) 1)) (gc) (print w) (print e)",
                "#<weak>\n#<ephemeron>\n");
    }

    private static void pairs() {
        Check.sentence("a pair: (, its car, then as long as the cdr is a pair a blank and that one's car, then, if the last cdr "
                + "is not NIL, blank . blank and it, and )");
        scheme().writes("(print '(1)) (print '(1 2 3)) (print (cons 1 2)) (print (cons 1 (cons 2 3))) (print (cons '() '()))",
                "(1)\n(1 2 3)\n(1 . 2)\n(1 2 . 3)\n(())\n")
                .writes("(print (cons (cons 1 2) (cons 3 4))) (print '((1) (2 (3)) ())) (print (cons 1 #f)) (print ''a) (print "
                + "(cons 1 car))",
                        "((1 . 2) 3 . 4)\n((1) (2 (3)) ())\n(1 . #f)\n(quote a)\n(1 . #<procedure>)\n");
    }

    private static void parts() {
        Check.sentence("At most 40 parts are written: whatever is no pair");
        scheme().writes("(print (upto 39 '()))", "(" + row(39) + ")\n").writes("(print (upto 40 '()))", "(" + row(40) + ")\n")
                .writes("(print (upto 41 '()))", "(" + row(40) + " ...)\n")
                .writes("(print (upto 200 '()))", "(" + row(40) + " ...)\n")
                .writes("(print (upto 39 5))", "(" + row(39) + " . 5)\n")
                .writes("(print (upto 40 5))", "(" + row(40) + " . ...)\n")
                .writes("(print (upto 38 '(() #t)))", "(" + row(38) + " () #t)\n")
                .writes("(print (upto 39 '(() #t)))", "(" + row(39) + " () ...)\n")
                .writes("(print (upto 39 (cons car (table))))", "(" + row(39) + " #<procedure> . ...)\n");
        Check.sentence("a pair that stands in 10 others' brackets, which is written as ...");
        Check x = scheme();
        for (int deep = 1; deep <= 10; deep++) {
            x.writes("(print (wrap " + deep + " 7))", wrapped(deep, "7") + "\n");
            x.writes("(print (wrap " + (deep - 1) + " (cons 7 8)))", wrapped(deep - 1, "(7 . 8)") + "\n");
        }
        x.writes("(print (wrap 11 7))", wrapped(10, "...") + "\n")
                .writes("(print (wrap 10 (cons 7 8)))", wrapped(10, "...") + "\n")
                .writes("(print (wrap 30 7))", wrapped(10, "...") + "\n")
                .writes("(print (wrap 9 '(1 (2) 3 (4 5) ())))", wrapped(10, "1 ... 3 ... ()") + "\n")
                .writes("(print (wrap 9 (cons '(1) 2)))", wrapped(10, "... . 2") + "\n")
                .writes("(print (wrap 10 '()))", wrapped(10, "()") + "\n");
        // Such a pair is one part.
        x.writes("(print (wrap 9 (upto 39 '((a)))))", wrapped(10, row(39) + " ...") + "\n");
        x.writes("(print (wrap 9 (upto 38 '((a b c) 40))))", wrapped(10, row(38) + " ... 40") + "\n");
        x.writes("(print (wrap 9 (upto 39 '((a) 41))))", wrapped(10, row(39) + " ... ...") + "\n");
    }

    private static void brackets() {
        Check.sentence("(other pairs are no parts, and begin with their bracket)");
        scheme().writes("(print (upto 39 '((40))))", "(" + row(39) + " (40))\n")
                .writes("(print (upto 39 '(((((40)))))))", "(" + row(39) + " ((((40)))))\n")
                .writes("(print (upto 39 '((40) 41)))", "(" + row(39) + " (40) ...)\n")
                .writes("(print (upto 40 '((41))))", "(" + row(40) + " (...))\n")
                .writes("(print (upto 40 '((((41))) 42)))", "(" + row(40) + " (((...))))\n")
                // In ten brackets a pair has none of its own, and is the 41st part itself.
                .writes("(print (wrap 8 (upto 40 '((41)))))", wrapped(9, row(40) + " (...)") + "\n")
                .writes("(print (wrap 9 (upto 40 '((41)))))", wrapped(10, row(40) + " ...") + "\n");
    }

    private static void theOneTooMany() {
        Check.sentence("where the 41st would stand (behind a blank, or blank . blank, or a bracket) there is ... , and then "
                + "only the brackets that are open are closed");
        scheme().writes("(print (upto 40 '(41 42)))", "(" + row(40) + " ...)\n")
                .writes("(print (upto 40 41))", "(" + row(40) + " . ...)\n")
                .writes("(print (upto 40 '((41 42) 43)))", "(" + row(40) + " (...))\n")
                .writes("(print (cons (upto 40 '()) 41))", "((" + row(40) + ") . ...)\n")
                .writes("(print (cons (upto 40 '()) '(41)))", "((" + row(40) + ") ...)\n")
                .writes("(print (cons (upto 40 '()) '((41))))", "((" + row(40) + ") (...))\n")
                .writes("(print (cons (upto 40 '()) '()))", "((" + row(40) + "))\n")
                .writes("(print (cons (upto 41 '()) 42))", "((" + row(40) + " ...))\n")
                .writes("(print (wrap 5 (cons (upto 41 '()) 42)))", wrapped(7, row(40) + " ...") + "\n")
                .writes("(print (cons (upto 39 '(() 41)) '(42)))", "((" + row(39) + " () ...))\n");
        // Rings end, too.
        Check x = scheme();
        x.run("(define r (cons 1 2)) (set-cdr! r r) (define q (cons 1 2)) (set-car! q q) (define s (cons 1 2)) (set-car! s s) "
                + "(set-cdr! s s)");
        x.writes("(print r)", "(" + "1 ".repeat(40) + "...)\n")
                .writes("(print q)", "(".repeat(10) + "... . 2" + ") . 2".repeat(9) + ")\n")
                .writes("(print s)", wrapped(10, "... ".repeat(40) + "...") + "\n");
        // Each print counts anew.
        x.writes("(print (upto 41 '())) (print (upto 40 '()))", "(" + row(40) + " ...)\n(" + row(40) + ")\n");
    }

    private static void bytesThatWait() {
        Check.sentence("At most 4000 bytes wait; what is beyond is left out, byte by byte.");
        Check x = scheme();
        x.run("(define fill (lambda (n) (while (< 0 n) (print 1234567) (set! n (- n 1)))))");
        x.ends("(fill 499)", 0).counts(6, 3992).ends("(print 123456)", 0).counts(6, 3999).ends("(print 78)", 0).counts(6, 4000)
                .ends("(print 9) (define done 5)", 0).counts(6, 4000);
        for (int i = 0; i < 400; i++) {
            byte[] due = Check.bytes("\7" + "1234567\n1234567\n".substring(i * 7 % 8, i * 7 % 8 + 7));
            Check.due("fetch " + i, x.scheme().fetch(), (long) Check.four(due, 0) << 32 | Check.four(due, 4));
        }
        x.counts(6, 1200).ends("(print done)", 0).counts(6, 1202);
        // The last ones of 4000 can be seen only behind the 512th call.
        x = scheme().beyondThePromise();
        x.run("(define fill (lambda (n) (while (< 0 n) (print 1234567) (set! n (- n 1)))))");
        x.ends("(fill 499) (print 123456) (print 78) (print 9)", 0);
        Check.due("the first 4000", x.output(), "1234567\n".repeat(499) + "123456\n7");
        x.counts(6, 0).ends("(fill 500)", 0).counts(6, 4000).ends("(print 1)", 0).counts(6, 4000);
        Check.due("seven are taken", x.scheme().fetch() >>> 56, 7L);
        x.counts(6, 3993).ends("(print 'abcdef)", 0).counts(6, 4000).ends("(print 'g)", 0).counts(6, 4000);
        Check.due("the rest", x.output(), "\n" + "1234567\n".repeat(499) + "abcdef\n");
        // In the midst of a value; what is printed behind it is left out, too, and the run goes on.
        x.ends("(fill 499)", 0).counts(6, 3992).ends("(print '(1 2 3 4 5 6)) (define done 5)", 0).counts(6, 4000)
                .ends("(print done)", 0);
        Check.due("cut", x.output(), "1234567\n".repeat(499) + "(1 2 3 4");
        x.writes("(print done)", "5\n").writes("(fill 500)", "1234567\n".repeat(500));
        for (int i = 0; i < 9; i++) {
            x.writes("(fill 300) (print 'x)", "1234567\n".repeat(300) + "x\n");
        }
    }
}
