/** Promise 3: the cells of objects, when there is a collection, fault 12 MEMORY, and what is held. */
public final class HeapTest {
    public static void main(String[] args) {
        cellsOfEachKind();
        collectedOnlyWhenNeeded();
        memory();
        theFuelOfACollection();
        valuesAreHeld();
        valuesAreHeldNoLonger();
        framesAreHeld();
        framesAreHeldNoLonger();
        quotedListsAreHeld();
        operandsAreHeldWhileAnObjectIsMade();
        everyObjectOutlivesCollections();
        manySmallObjects();
        cellsThatServedBefore();
        Check.end();
    }

    private static void uses(String text, int cells, int objects) {
        Check x = new Check(2000);
        x.run("(define f (lambda () 1)) (define g (lambda (a b c) 1)) (define t (table)) (define p '(1)) (gc)");
        x.counts(0, 4 + 4 + 3 + 4).counts(1, 4);
        x.ends(text, 0);
        Check.due("cells of " + text, x.count(0) - 15, cells);
        Check.due("objects of " + text, x.count(1) - 4, objects);
        x.writes("(print (cells))", 15 + cells + "\n");
        x.writes("(gc) (print (cells))", (text.contains("t 1 1") ? 20 : 15) + "\n");
    }

    private static void cellsOfEachKind() {
        uses("5", 0, 0);
        uses("'a", 0, 0);
        uses("'()", 0, 0);
        uses("(cons 1 2)", 4, 1);
        uses("'(1 2 (3))", 16, 4);
        uses("''a", 8, 2);
        uses("(vector 0 1)", 3, 1);
        uses("(vector 7 1)", 10, 1);
        uses("(vector 100 1)", 103, 1);
        uses("(lambda (a b c) 1)", 4, 1);
        uses("(f)", 3, 1);
        uses("(g 1 2 3)", 6, 1);
        uses("(let () 1)", 3, 1);
        uses("(let ((a 1) (b 2)) 1)", 5, 1);
        uses("((lambda (a) a) 1)", 8, 2);
        uses("(weak 1)", 3, 1);
        uses("(ephemeron 1 2)", 4, 1);
        uses("(table)", 3, 1);
        uses("(table-put! t 1 1)", 5, 1);
        uses("(begin (table-put! t 1 1) (table-put! t 1 2))", 5, 1);
        uses("(begin (table-get t 1) (table-size t) (hash t) (cells) (+ 1 2) (eq? 1 1))", 0, 0);
        uses("(begin (set! p p) (and 1 2) (or 1 2) (if 1 2) (while #f 1))", 0, 0);
    }

    private static void collectedOnlyWhenNeeded() {
        Check x = new Check(100);
        x.run("(define i 0) (while (< i 25) (cons 1 2) (set! i (+ i 1)))");
        x.counts(0, 100).counts(2, 0);
        x.ends("(cons 1 2)", 0).counts(0, 4).counts(1, 1).counts(2, 1);
        x.ends("(vector 93 0)", 0).counts(0, 100).counts(2, 1);
        x.ends("1 'a '() (+ 1 2)", 0).counts(0, 100).counts(2, 1);
        x.ends("(let () 1)", 0).counts(0, 3).counts(2, 2);
        x.ends("(vector 95 0)", 0).counts(0, 98).counts(2, 3);
    }

    private static void memory() {
        Check x = new Check(100);
        x.ends("(vector 98 0)", 12).counts(2, 1).counts(0, 0);
        x.ends("(define v (vector 97 0))", 0).counts(0, 100);
        x.ends("(vector 0 0)", 12).counts(2, 2).counts(0, 100);
        x.ends("(let () 1)", 12);
        x.ends("((lambda () 1))", 12);
        x.ends("(weak 1)", 12);
        x.ends("(table)", 12);
        x.ends("'(1)", 12);
        x.writes("(print (vector-size v))", "97\n");
        x.ends("(set! v (vector 0 0))", 12).counts(0, 100);
        x.ends("(set! v 0)", 0).ends("(set! v (vector 96 0))", 0).counts(0, 99);
        Check y = new Check(100);
        y.ends("(define t (table)) (define i 0) (while #t (table-put! t i i) (set! i (+ i 1)))", 12);
        y.counts(0, 98).counts(1, 20).counts(2, 1);
        y.writes("(print (table-size t)) (print (table-get t 18)) (print (table-get t 19)) (print i)", "19\n18\n#f\n19\n");
        y.ends("(table-put! t 5 'five)", 0).counts(2, 1);
        y.writes("(print (table-get t 5)) (print (table-size t))", "five\n19\n");
        Check z = new Check(100);
        z.ends("(define f (lambda () 1)) (define v (vector 90 0))", 0).counts(0, 97);
        z.ends("(f)", 0).counts(0, 100).counts(2, 0).ends("(f)", 0).counts(0, 100).counts(2, 1);
        z.ends("((lambda (x) x) 1)", 12);
    }

    private static void theFuelOfACollection() {
        Check x = new Check(100);
        x.run("(define i 0) (while (< i 25) (cons 1 2) (set! i (+ i 1)))");
        Check.due("99 are left", x.run("(cons 1 2)", 103), 4);
        x.counts(0, 100).counts(1, 25).counts(2, 0).counts(7, 99);
        Check.due("none are left", x.run("(cons 1 2)", 4), 4);
        x.counts(2, 0).counts(7, 0);
        Check.due("100 are left", x.run("(cons 1 2)", 104), 0);
        x.counts(0, 4).counts(2, 1).counts(7, 0);
        Check.due("gc with 99", x.run("(gc)", 101), 4);
        x.counts(0, 4).counts(2, 1).counts(7, 99);
        Check.due("gc with 100", x.run("(gc)", 102), 0);
        x.counts(0, 0).counts(2, 2).counts(7, 0);
        Check.due("two of them", x.run("(gc) (gc)", 300), 0);
        x.counts(2, 4).counts(7, 96);
        Check.due("too much for H", x.run("(vector 98 0)", 103), 4);
        x.counts(2, 4).counts(7, 99);
        Check.due("too much for H", x.run("(vector 98 0)", 104), 12);
        x.counts(2, 5).counts(7, 0);
    }

    /** tell makes w refer to a value, and gives it; told is what is left of it behind a collection. */
    private static Check teller() {
        Check x = new Check(500);
        x.run("(define w 0) (define tell (lambda (x) (set! w (weak x)) x)) (define told (lambda () (gc) (weak-get w)))");
        x.run("(define show (lambda () (print (told)))) (define second (lambda (a b) b))");
        return x;
    }

    private static void valuesAreHeld() {
        teller().writes("(print (cons (tell '(1)) (told)))", "((1) 1)\n")
                .writes("(print (second (tell '(2)) (told)))", "(2)\n")
                .writes("(let ((a (tell '(3))) (b (told))) (print b))", "(3)\n")
                .writes("(print ((tell (lambda (x) x)) (told)))", "#<procedure>\n")
                .writes("(print (second (second 1 (tell '(4))) (+ 1 (begin (show) 1))))", "(4)\n2\n")
                .writes("(let ((a 1) (b (tell '(5)))) (show) b)", "(5)\n")
                .writes("((lambda (x) (show) x) (tell '(6)))", "(6)\n")
                .writes("(print (+ (begin (tell '(7)) 1) (begin (show) 2)))", "#f\n3\n");
    }

    private static void valuesAreHeldNoLonger() {
        teller().writes("(tell '(1)) (show)", "#f\n")
                .writes("(begin (tell '(1)) (show))", "#f\n")
                .writes("(if (tell '(1)) (show))", "#f\n")
                .writes("(and (tell '(1)) (show))", "#f\n")
                .writes("(or (not (tell '(1))) (show))", "#f\n")
                .writes("(define x (car (cons (tell '(1)) 2))) (show) (set! x 0) (show)", "(1)\n#f\n")
                .writes("((tell (lambda () (show))))", "#f\n")
                .writes("((tell (lambda (x) (show) x)) 1)", "#f\n")
                .writes("((lambda (x) (set! x 0) (show)) (tell '(1)))", "#f\n")
                .writes("(let ((x (tell '(1)))) (set! x 0) (show))", "#f\n")
                .writes("(let ((x (begin (tell '(1)) 1)) (y (told))) (print y))", "#f\n")
                .writes("(print (second (begin (tell '(1)) 1) (told)))", "#f\n")
                .writes("(print (not (tell '(1)))) (show)", "#f\n#f\n")
                .writes("(while (tell '(1)) (show) (set! tell not))", "#f\n");
        Check x = teller();
        x.ends("(cons (tell '(1)) (car 5))", 9);
        x.writes("(show)", "#f\n");
        x.ends("((lambda (x) (car 5)) (tell '(1)))", 9);
        x.writes("(show)", "#f\n");
    }

    private static void framesAreHeld() {
        teller().writes("((lambda (x) (show) 1) (tell '(1)))", "(1)\n")
                .writes("(let ((x (tell '(1)))) (show))", "(1)\n")
                .writes("(let ((x (tell '(1)))) (let ((y 1)) ((lambda (z) (show)) 2)))", "(1)\n")
                .writes("(let ((x (tell '(1)))) (if (begin (show) #t) (begin (show) 1) 2))", "(1)\n(1)\n")
                .writes("(let ((x (tell '(1)))) (while (begin (show) #f)))", "(1)\n")
                .writes("(let ((x (tell '(1)))) (set! x (begin (show) 2)) (show))", "(1)\n#f\n")
                .writes("(define f (let ((x (tell '(1)))) (lambda () 1))) (show) (set! f 0) (show)", "(1)\n#f\n")
                .writes("(define g (lambda (x) (show))) (define h (lambda (x) (g 1))) (h (tell '(1)))", "(1)\n");
    }

    private static void framesAreHeldNoLonger() {
        teller().writes("(begin ((lambda (x) 1) (tell '(1))) (show))", "#f\n")
                .writes("(begin (let ((x (tell '(1)))) x) (show))", "#f\n")
                .writes("(define g (lambda (x) (tell '(1)) (show))) (g 1)", "#f\n")
                .writes("(define made (lambda (x) (lambda () (show)))) ((made (tell '(1))))", "(1)\n")
                .writes("(show)", "#f\n");
    }

    private static void quotedListsAreHeld() {
        Check x = new Check(100);
        x.run("(define i 0) (while (< i 20) (cons 1 2) (set! i (+ i 1)))");
        x.counts(0, 80).counts(2, 0);
        x.writes("(print '(1 (2 (3) 4) (5) (6 7) 8))", "(1 (2 (3) 4) (5) (6 7) 8)\n");
        x.counts(2, 1).counts(0, 48).counts(1, 12);
        Check y = new Check(100);
        y.run("(vector 97 0)");
        y.writes("(print '((((1) 2) 3) 4 ((5))))", "((((1) 2) 3) 4 ((5)))\n");
        y.counts(2, 1).counts(0, 40);
        // 25 pairs fit, and the 26th finds all others held.
        Check z = new Check(100);
        z.ends("'(1 2 3 4 5 6 7 8 9 10 11 12 13 14 15 16 17 18 19 20 21 22 23 24 25)", 0).counts(0, 100).counts(2, 0);
        z.ends("'(1 2 3 4 5 6 7 8 9 10 11 12 13 14 15 16 17 18 19 20 21 22 23 24 25 26)", 12).counts(0, 100).counts(2, 2);
        z.ends("'((1 2 3 4 5 6 7 8) (9 10 11 12 13 14 15) (16 17 18 19 20 21 22) 23)", 12).counts(0, 100).counts(2, 4);
        z.ends("'((1 2 3 4 5 6 7 8) (9 10 11 12 13 14 15) (16 17 18 19 20 21))", 0).counts(0, 96).counts(2, 5);
        z.ends("(gc)", 0).counts(0, 0);
        // In a fault's run the last element of a list is made first.
        Check w = new Check(100);
        w.run("(define v (vector 88 0))");
        w.ends("'(1 2 3 4)", 12).counts(0, 99).counts(1, 3);
    }

    private static void operandsAreHeldWhileAnObjectIsMade() {
        String[] makers = {
            "(cons (vector 20 0) (vector 20 0))", "(vector 10 (vector 30 0))", "(weak (vector 40 0))",
            "(ephemeron (vector 20 0) (vector 20 0))", "(let ((a (vector 20 0)) (b (vector 20 0))) b)",
            "((lambda (a b) b) (vector 20 0) (vector 20 0))"
        };
        for (String maker : makers) {
            for (int ahead = 0; ahead < 70; ahead++) {
                Check x = new Check(100);
                x.run("(vector " + ahead + " 0)");
                x.ends("(define made " + maker + ")", 0);
            }
        }
        for (int ahead = 0; ahead < 60; ahead++) {
            Check x = new Check(100);
            x.run("(define t (table)) (vector " + ahead + " 0)");
            x.ends("(table-put! t (vector 20 1) (vector 20 2))", 0);
            x.counts(0, 3 + 23 + 23 + 5 + (ahead + 3 <= 46 ? ahead + 3 : 0));
            x.writes("(print (table-size t))", "1\n");
        }
    }

    private static void everyObjectOutlivesCollections() {
        Check x = new Check(300);
        x.run("(define p (cons 1 (cons 2 3))) (define v (vector 3 p)) (define f (let ((n 5)) (lambda (m) (+ n m))))");
        x.run("(define w (weak p)) (define e (ephemeron p 'val)) (define t (table)) (table-put! t v 'vec) (table-put! t 1 p)");
        x.run("(define i 0) (while (< i 400) (vector (remainder i 20) i) (set! i (+ i 1)))");
        Check.due("there were collections", x.count(2) > 5, true);
        x.writes("(print p) (print (vector-get v 2)) (print (f 6)) (print (weak-get w)) (print (ephemeron-value e))",
                "(1 2 . 3)\n(1 2 . 3)\n11\n(1 2 . 3)\nval\n");
        x.writes("(print (table-get t v)) (print (table-get t 1)) (print (table-size t)) (print (eq? p (weak-get w)))",
                "vec\n(1 2 . 3)\n2\n#t\n");
    }

    /** No object is smaller than 3 cells. */
    private static void manySmallObjects() {
        for (int cells : new int[] {100, 101, 102, 2000, 20000}) {
            Check x = new Check(cells);
            x.run("(define fill (lambda (n) (while (< 0 n) (weak n) (set! n (- n 1))))) (define n 0)");
            x.run("(set! fill 0) (gc)");
            x.counts(0, 0);
            for (int left = cells / 3; left > 0; left -= 1000) {
                x.run("(set! n " + Math.min(left, 1000) + ") (while (< 0 n) (weak n) (set! n (- n 1)))");
            }
            x.counts(0, cells / 3 * 3).counts(1, cells / 3).counts(2, 1);
            x.ends("(weak 1)", 0);
            x.counts(0, 3).counts(1, 1).counts(2, 2);
        }
    }

    /** A new object has nothing of what had its cells before. */
    private static void cellsThatServedBefore() {
        Check x = new Check(200);
        x.run("(vector 97 7) (vector 97 7) (gc)");
        x.counts(0, 0);
        x.writes("(define t (table)) (print (table-size t)) (print (table-get t 7)) (table-put! t 1 2) (print (table-size t))"
                + "(print (table-get t 7)) (print (table-get t 1))", "0\n#f\n1\n#f\n2\n");
        x.writes("(define v (vector 3 'a)) (print (vector-get v 0)) (print (vector-get v 1)) (print (vector-get v 2))",
                "a\na\na\n");
        x.writes("(let ((a 1)) (let () (print a))) (print (cons 1 2)) (print (weak-get (weak 5)))", "1\n(1 . 2)\n5\n");
        x.writes("(print ((lambda (a b) (cons a b)) 3 4)) (print (ephemeron-value (ephemeron 5 6)))", "(3 . 4)\n6\n");
    }
}
