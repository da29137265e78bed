/**
 * Where several sentences of the document meet: calls behind a fault or a refused call, collections in the midst
 * of something else, and what stays from run to run.
 */
public final class MeetingTest {
    /** A program for each fault that leaves forms, frames, values and half a list behind. */
    private static final String[] FAULTS = {
        "(let ((x '(1 2))) (cons x (while #t)))",
        "(let ((x '(1 2))) (cons x (unknown x)))",
        "(let ((x '(1 2))) (cons x (1 x)))",
        "(let ((x '(1 2))) (cons x (car x x)))",
        "(define deep (lambda (n) (cons n (deep n)))) (deep '(1 2))",
        "(let ((x '(1 2))) (cons x (car 5)))",
        "(let ((x '(1 2))) (cons x (quotient 5 0)))",
        "(let ((x '(1 2))) (cons x (vector 101 x)))",
        "(let ((x (vector 97 0))) (let ((y (vector 97 x)) (z (vector 97 x)) (u (vector 97 x))) '((1 2 3) ((4 5 6) 7 8))))"
    };

    public static void main(String[] args) {
        behindEachFault();
        behindAFaultInAQuotedList();
        behindAFaultOfFuel();
        behindFaultsInTheQueue();
        behindAFaultOfTheText();
        behindRefusedCalls();
        collectedAnywhere();
        collectedAnywhereInTheQueue();
        collectedForTheQueuesOwnCalls();
        clearedInTheMidst();
        registrationsStay();
        namesStay();
        bytesStay();
        proceduresStay();
        Check.end();
    }

    private static void behindEachFault() {
        for (int i = 0; i < FAULTS.length; i++) {
            for (int other = 0; other < FAULTS.length; other++) {
                Check x = new Check(400);
                x.run("(define keep '(k)) (define down (lambda (n) (if (< n 2) 'down (down (- n 1)))))");
                x.ends(FAULTS[i], i + 4).ends(FAULTS[other], other + 4);
                // Nothing is held any more.
                x.run("(define deep 0) (gc)");
                x.counts(0, 8).counts(1, 2);
                // Nor do calls stand in one another, or a half of a list wait.
                x.writes("(print '((1 2) (3 (4)) 5))", "((1 2) (3 (4)) 5)\n").writes("(print (down 60)) (print keep)", "down\n(k)\n");
                x.ends("(down 61)", 8).ends("(down 60)", 0);
            }
        }
    }

    private static void behindAFaultInAQuotedList() {
        for (int room = 0; room < 12; room++) {
            Check x = new Check(100);
            x.run("(define v (vector " + (97 - 4 * room) + " 0))");
            // 12 pairs: the list ends in the midst, at each of its places.
            x.ends("(print '(1 (2 (3) 4) (5) (6 7) 8))", 12).counts(0, 100).counts(1, 1 + room).counts(2, 1);
            x.ends("'(a)", room == 0 ? 12 : 0);
            x.run("(set! v 0)");
            x.writes("(print '((1) (2 3) ((4))))", "((1) (2 3) ((4)))\n");
            x.writes("(gc) (print (cells))", "0\n");
        }
    }

    private static void behindAFaultOfFuel() {
        String program = "(let ((i 0)) (while (< i 3) (print (cons i '(a (b)))) (set! i (+ i 1)))) (gc) (print (cells))";
        Check all = new Check(100);
        all.run("(vector 80 0)");
        all.takes(program, 20000, 0, 20000 - 258);
        Check.due("output", all.output(), "(0 a (b))\n(1 a (b))\n(2 a (b))\n0\n");
        for (int fuel = 0; fuel < 258; fuel++) {
            Check x = new Check(100);
            x.run("(vector 80 0)");
            Check.due("with " + fuel, x.run(program, fuel), 4);
            x.output();
            x.writes("(gc) (print (cells))", "0\n");
            x.writes(program, "(0 a (b))\n(1 a (b))\n(2 a (b))\n0\n");
        }
    }

    /** Registers one for each of the numbers; that with a fault's number ends so. */
    private static Check queue(String bad) {
        Check x = new Check(400);
        x.run("(define log (lambda (o) (print (car o)) (if (= (car o) 3) " + bad + ")))");
        x.run("(define i 1) (while (< i 7) (finalize! (cons i i) log) (set! i (+ i 1)))");
        return x;
    }

    private static void behindFaultsInTheQueue() {
        for (int i = 0; i < FAULTS.length; i++) {
            if (FAULTS[i].startsWith("(define")) {
                continue;
            }
            Check x = queue(FAULTS[i]);
            x.ends("(begin (gc) (print 'never)) (print 'never)", i + 4);
            Check.due("output", x.output(), "1\n2\n3\n");
            x.counts(3, 3).counts(4, 0);
            // These have no datum that is evaluated to its end: the queue stays as it is.
            x.writes("", "").writes("; no datum", "").fails("(print 'never) (", 1, 16).fails("(print 'never) ()", 3, 15);
            x.ends("unknown", 5).takes("1", 0, 4, 0);
            Check.due("refused", x.scheme().run(5, 5), -1);
            x.counts(3, 3).counts(6, 0);
            x.writes("(gc) 1", "4\n5\n6\n").counts(3, 0);
        }
        // Each fault takes one from the queue.
        Check y = new Check(400);
        y.run("(define bad (lambda (o) (print (car o)) (car 0)))");
        y.run("(define i 1) (while (< i 7) (finalize! (cons i i) bad) (set! i (+ i 1)))");
        y.ends("(gc)", 9).counts(3, 5).counts(4, 0);
        for (int left = 4; left >= 0; left--) {
            y.ends("0 0", 9).counts(3, left);
        }
        Check.due("output", y.output(), "1\n2\n3\n4\n5\n6\n");
        y.ends("0", 0);
    }

    private static void behindAFaultOfTheText() {
        Check x = new Check(400);
        x.run("(define a '(1)) (define f (lambda () (gc) (print a) 'done)) (print 'first) (hash a)");
        String[] texts = {")", "(f) (f", "(f) #x", "(f)" + "'1".repeat(667), "(f) ()", "(set! a 0) (define if 1)",
            "(f) (let ((x 1) (x 2)) x)", "(f) 99999999999"};
        for (String text : texts) {
            int fault = text.contains("'1") ? 2 : text.contains("()") || text.contains("if") || text.contains("let") ? 3 : 1;
            Check.due(text, x.run(text, 321), fault);
            x.counts(0, 8).counts(1, 2).counts(2, 0).counts(5, 0).counts(6, 6).counts(7, 321).counts(8, 1);
        }
        x.writes("(print (f))", "first\n(1)\ndone\n");
    }

    private static void behindRefusedCalls() {
        Check x = new Check(400);
        for (int i = 0; i < 150; i++) {
            x.scheme().feed(0x31203220, 0x33203420, 0x35203620, 0x37203820, 0x39202020);
        }
        for (int i = 0; i < 3; i++) {
            Check.due("feed", x.scheme().feed(-1, -1, -1, -1, -1), false);
            Check.due("run", x.scheme().run(3001, 5), -1);
            Check.due("run", x.scheme().run(3000, -1), -1);
        }
        Check.due("run", x.scheme().run(2990, 1350), 0);
        x.counts(7, 4).counts(5, 0);
        // Behind the run there is no text for the next one, but that of none.
        Check.due("run", x.scheme().run(1, 1350), -1);
        x.counts(7, 4);
        Check.due("run", x.scheme().run(0, 1350), 0);
        x.counts(7, 1350);
        // A fault's place stays behind a refused run, and its text is gone.
        x.fails("  ()", 3, 2);
        Check.due("run", x.scheme().run(20, 1), -1);
        Check.due("place", x.scheme().place(), 2);
        x.feed("(print 7)");
        Check.due("run", x.scheme().run(9, 20001), -1);
        Check.due("place", x.scheme().place(), 2);
        Check.due("run", x.scheme().run(9, 3), 0);
        Check.due("place", x.scheme().place(), -1);
        Check.due("output", x.output(), "7\n");
    }

    /** Whatever the room, a program that has enough of it writes the same. */
    private static void collectedAnywhere() {
        String first = "(define add (lambda (a b) (if (pair? a) (cons (car a) (add (cdr a) b)) b)))"
                + "(define t (table)) (define v (vector 2 '())) (define count (let ((n 0)) (lambda () (set! n (+ n 1)) n)))";
        String second = "(let ((i 0)) (while (< i 12) (vector-put! v (remainder i 2) (cons (count) '(a (b ((c))))))"
                + "(let ((k (cons i '(k)))) (table-put! t k (lambda (m) (cons m k))) (print ((table-get t k) (vector-get v 0))))"
                + "(set! i (+ i 1))))";
        String third = "(print (add '(1 (2) 3) (add '(4) (let ((x '(5)) (y '((6) 7))) (add x y)))))"
                + "(print (ephemeron-value (ephemeron (car v) 1)))";
        String fourth = "(print (add (and '(1) '(2)) (or #f '(3 4)))) (print (vector-get v 1)) (print (weak-get (weak 5)))";
        String due = written(20000, first, second, third, fourth);
        Check.due("length", due.length() > 300, true);
        int least = 0;
        for (int cells = 400; cells >= 100; cells--) {
            String written = written(cells, first, second, third, fourth);
            if (written.contains("12:")) {
                least = Math.max(least, cells);
            } else {
                Check.due("with " + cells, written, due);
            }
        }
        Check.due("so much room is enough", least < 250, true);
    }

    private static String written(int cells, String... programs) {
        Check x = new Check(cells);
        StringBuilder all = new StringBuilder();
        for (String program : programs) {
            all.append(x.run(program)).append(": ").append(x.output());
        }
        return all.toString();
    }

    private static void collectedAnywhereInTheQueue() {
        String first = "(define seen '()) (define log (lambda (o) (let ((l '(a (b) c))) (set! seen (cons (cons (car o) l) '()))"
                + "(if (< 3 (car o)) (finalize! (cons (- (car o) 1) '(x y)) log)) (print (car seen)))))";
        String second = "(let ((i 0)) (while (< i 5) (finalize! (cons (+ i 2) '(x)) log) (set! i (+ i 1))))";
        String[] more = {"(gc)", "(gc) (print 'between) (gc)", "(begin (gc) (print 'in)) (gc)", "(print seen)"};
        String due = written(20000, first, second, more[0], more[1], more[2], more[3]);
        int alike = 0;
        for (int cells = 130; cells <= 500; cells++) {
            String written = written(cells, first, second, more[0], more[1], more[2], more[3]);
            alike += sorted(written).equals(sorted(due)) ? 1 : 0;
        }
        // When the queue is called depends on the room; what it is called with does not.
        Check.due("all lines are there", alike, 371);
    }

    private static String sorted(String lines) {
        String[] all = lines.replaceAll("[0-9]: ", "").split("\n");
        java.util.Arrays.sort(all);
        return String.join("\n", all);
    }

    private static void collectedForTheQueuesOwnCalls() {
        // The frame of a queue's call has no room: the collection for it keeps the two of the call, and queues more.
        Check x = new Check(100);
        x.run("(define f (lambda (o) (print (vector-size o)))) (define v 0)");
        x.run("(finalize! (vector 3 0) f) (finalize! (vector 4 0) f)");
        x.counts(0, 17);
        x.run("(set! v (vector 76 0))");
        x.counts(0, 96).counts(2, 0);
        x.run("(define w (vector 1 0))");
        // Full, with nothing dead but the two: gc queues them, and then there is no room for a frame.
        x.counts(0, 100).counts(4, 2).ends("(gc)", 12).counts(2, 2).counts(3, 1).counts(0, 100);
        x.writes("0", "4\n").counts(2, 3).counts(3, 0).counts(0, 98);
        // A collection for a call's frame queues another one, which is called by the same gc, behind it.
        Check y = new Check(100);
        y.run("(define hide 0) (define f (lambda (o) (print (vector-size o)))) (define v (vector 50 0))");
        y.run("(define g (lambda (o) (print (vector-size o)) (vector 12 0) (set! v 0) (vector 12 0) (print 'made)))");
        y.run("(finalize! v f) (finalize! (vector 7 0) g)");
        y.writes("(begin (gc) (print 'end))", "7\nmade\n50\nend\n").counts(2, 2).counts(3, 0).counts(4, 0);
        // By the datum's own call of the queue, too.
        y.run("(set! v (vector 50 0)) (finalize! v f)");
        y.ends("(begin (finalize! (vector 7 0) g) (set! hide (vector 15 0)) (set! hide 0) (vector 15 0) (car 0))", 9).counts(3, 1);
        y.writes("0 (print 'end)", "7\nmade\n50\nend\n").counts(3, 0).counts(4, 0);
    }

    private static void clearedInTheMidst() {
        // Between an operand and the next one a collection clears what only a weak reference has.
        Check x = new Check(200);
        x.run("(define w (weak '(1))) (define t (table)) (table-put! t (weak-get w) 'v) (define e (ephemeron (weak-get w) 'v))");
        x.writes("(print (cons (cons (weak-get w) (table-size t)) (begin (gc) (cons (weak-get w) (table-size t)))))",
                "(((1) . 1) (1) . 1)\n");
        x.writes("(print (cons (cons (table-size t) (ephemeron-value e)) (begin (gc) (cons (table-size t) (ephemeron-value e)))))",
                "((1 . v) 0 . #f)\n");
        x.writes("(print (weak-get w))", "#f\n");
        // The key that a table-put! has no room for is held; the others go, and make room for it.
        Check y = new Check(100);
        y.run("(define t (table)) (define i 0) (define k 0)");
        y.run("(while (< i 10) (table-put! t (weak i) i) (set! i (+ i 1)))");
        y.counts(0, 83).counts(1, 21);
        y.run("(table-put! t (weak i) i) (define v (vector 3 0))");
        y.counts(0, 97).counts(2, 0);
        y.writes("(begin (set! k (weak 'k)) (table-put! t k 'new) (print (table-size t)) (print (table-get t k)))", "1\nnew\n");
        y.counts(0, 3 + 3 + 5 + 6).counts(2, 1);
    }

    private static void registrationsStay() {
        Check x = new Check(200);
        x.run("(define log (lambda (o) (print o))) (define a '(a)) (finalize! a log)");
        x.ends("(finalize! '(b) log) (finalize! a log) (car 0)", 9).counts(4, 3).counts(3, 0);
        x.fails("(finalize! '(c) log) (", 1, 22).fails("(finalize! '(c) log) ()", 3, 21).counts(4, 3);
        x.takes("(finalize! '(d) log)", 4, 0, 0).counts(4, 4).takes("(finalize! '(d) log)", 3, 4, 0).counts(4, 4);
        x.takes("(gc)", 50, 4, 48).counts(4, 4).counts(3, 0);
        // Queued by the collection of a run that ends with a fault, behind which nothing is called.
        x.ends("(begin (set! a 0) (vector 90 0) (vector 90 0) (car 0))", 9).counts(4, 0).counts(3, 4);
        x.ends("(begin (finalize! '(e) log) (vector 90 0) (vector 90 0) (car 0))", 9).counts(4, 0).counts(3, 5).counts(6, 0);
        x.writes("'new (print 'end)", "(a)\n(b)\n(a)\n(d)\n(e)\nend\n").counts(3, 0);
    }

    private static void namesStay() {
        Check x = new Check(200);
        StringBuilder hundred = new StringBuilder();
        for (int i = 0; i < 4; i++) {
            hundred.setLength(0);
            for (int j = 0; j < 100; j++) {
                hundred.append(" n").append(i).append("x").append(j);
            }
            // Read ahead of a fault 1, a fault 3 and a fault of the run, and without one.
            if (i == 0) {
                x.fails("'(" + hundred + "))", 1, hundred.length() + 3);
            } else if (i == 1) {
                x.fails("'(" + hundred + ")()", 3, hundred.length() + 3);
            } else {
                x.ends(i == 2 ? "(car '(" + hundred + "))" : "(while #f '(" + hundred + "))", i == 2 ? 12 : 0);
            }
        }
        x.failsAt(2, "'n0x0 @one-more").failsAt(2, "'(n0x99 n1x99 n2x99 n3x99 car if) '@n4x0 )");
        x.writes("(define n1x50 7) (define n0x0 'n2x3) (print (cons n1x50 n0x0))", "(7 . n2x3)\n");
        // Neither a fault of its own nor one behind it makes the one known for which there is no room.
        x.failsAt(2, "@one-more").failsAt(2, "1 @one-more )").failsAt(1, "1 @1one-more").failsAt(1, "@) one-more");
        x.writes("(define car 5) (print car)", "5\n");
    }

    private static void bytesStay() {
        Check x = new Check(2000);
        x.run("(define many (lambda (n) (while (< 0 n) (print 'abcdefghi) (set! n (- n 1)))))");
        x.ends("(many 399)", 0).counts(6, 3990).ends("(begin (print 1) (print 2) (car 0))", 9).counts(6, 3994);
        x.fails("(print 3))", 1, 9).counts(6, 3994);
        x.ends("(many 1)", 0).counts(6, 4000).ends("(many 1)", 0).counts(6, 4000);
        for (int i = 0; i < 10; i++) {
            x.scheme().fetch();
        }
        // What was left out stays so; what is new comes behind, byte by byte, as far as there is room.
        x.counts(6, 3930).ends("(many 6)", 0).counts(6, 3990).ends("(many 2)", 0).counts(6, 4000);
        x.scheme().fetch();
        x.counts(6, 3993).ends("(print 12345) (print 7) (print 8)", 0).counts(6, 4000);
        StringBuilder due = new StringBuilder("abcdefghi\n".repeat(392)).delete(0, 7).append("1\n2\nabcdef")
                .append("abcdefghi\n".repeat(7)).append("12345\n7");
        Check.due("length", due.length(), 4000);
        StringBuilder got = new StringBuilder();
        while (got.length() < 2800) {
            long seven = x.scheme().fetch();
            for (int i = 0; i < 7; i++) {
                got.append((char) (seven >>> 48 - 8 * i & 255));
            }
        }
        Check.due("the first of them", got.toString(), due.substring(0, 2800));
        x.beyondThePromise();
        Check.due("the others", x.output(), due.substring(2800));
    }

    private static void proceduresStay() {
        // A procedure's text is there behind programs that were refused, and behind all others.
        Check x = new Check(500);
        x.run("(define f (lambda (a) (let ((b '(q (r)))) (cons a b)))) (define g (lambda () (f 1)))");
        for (int i = 0; i < 12; i++) {
            x.writes("(print (g))", "(1 q (r))\n");
            x.failsAt(3, "(define g 1) (lambda (z) (let ((z '(z (z)))) @(if)))");
            x.failsAt(1, "(define g 1) '(1 2 3 (4 5 6)) @)");
            x.ends("(define h (lambda () 'h)) (print (car (f 2))) (car 0)", 9);
            Check.due("output", x.output(), "2\n");
        }
        x.writes("(print (h)) (print (g))", "h\n(1 q (r))\n");
    }
}
