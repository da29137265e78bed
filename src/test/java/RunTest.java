/** Promises 3, 4 and 6: what run refuses and leaves, place, and count. */
public final class RunTest {
    public static void main(String[] args) {
        refusals();
        thePlaceIsOfTheLastRun();
        theFuelThatIsLeft();
        counts();
        everythingStaysFromRunToRun();
        Check.end();
    }

    private static void refusals() {
        Check x = new Check(500);
        WeakScheme s = x.scheme();
        Check.due("fault", x.run("(car 1) )", 50), 1);
        Check.due("place", s.place(), 8);
        x.feed("(print 1)");
        int[][] wrong = {{-1, 5}, {21, 5}, {Integer.MIN_VALUE, 5}, {Integer.MAX_VALUE, 5}, {9, -1}, {9, 20001},
            {9, Integer.MIN_VALUE}, {9, Integer.MAX_VALUE}, {-1, -1}, {21, 20001}};
        for (int[] call : wrong) {
            Check.due("run(" + call[0] + ", " + call[1] + ")", s.run(call[0], call[1]), -1);
            Check.due("the place stays", s.place(), 8);
            x.counts(5, 20).counts(6, 0).counts(7, 50);
        }
        Check.due("run(9, 20000)", s.run(9, 20000), 0);
        Check.due("output", x.output(), "1\n");
        x.counts(5, 0).counts(7, 19997);
        Check.due("nothing to run", s.run(1, 10), -1);
        Check.due("run(0, 0)", s.run(0, 0), 0);
        x.counts(7, 0);
        x.feed("(print 2)");
        Check.due("run(20, 10)", s.run(20, 10), 1);
        Check.due("place", s.place(), 9);
        x.feed("(print 3)");
        Check.due("run(0, 7)", s.run(0, 7), 0);
        x.counts(5, 0).counts(7, 7);
        Check.due("place", s.place(), -1);
        Check.due("output", x.output(), "");
    }

    private static void thePlaceIsOfTheLastRun() {
        Check x = new Check(500);
        Check.due("at first", x.scheme().place(), -1);
        x.fails("  )", 1, 2).ends("1", 0).fails("'1".repeat(667), 2, 1333).ends("(car 1)", 9).fails(" if", 3, 1);
        x.feed("1");
        Check.due("still", x.scheme().place(), 1);
        Check.due("run", x.scheme().run(1, 5), 0);
        Check.due("not any more", x.scheme().place(), -1);
        x.fails(" if", 3, 1);
        x.ends("unknown", 5).fails("(", 1, 1).ends("", 0).fails("()", 3, 0);
        Check.due("fuel", x.run("(while #t)", 5), 4);
        Check.due("place", x.scheme().place(), -1);
        x.fails(")", 1, 0);
    }

    private static void theFuelThatIsLeft() {
        Check x = new Check(500);
        x.counts(7, 0);
        x.run("(+ 1 2)", 100);
        x.counts(7, 96);
        x.run(")", 55);
        x.counts(7, 55);
        x.run("(if)", 20000);
        x.counts(7, 20000);
        x.run("'1".repeat(667), 3);
        x.counts(7, 3);
        x.run("1 2 (car 3) 4", 30);
        x.counts(7, 25);
        x.run("", 17);
        x.counts(7, 17);
        x.run("(gc) 1", 1000);
        x.counts(7, 897);
    }

    private static void counts() {
        Check x = new Check(500);
        int[] wrong = {-1, 9, 10, 100, -100, Integer.MIN_VALUE, Integer.MAX_VALUE};
        for (int what : wrong) {
            x.counts(what, -1);
        }
        x.run("(define p '(1 2)) (define t (table)) (table-put! t p 1) (define f (lambda (x) x)) (let ((y 1)) y)", 900);
        // Two pairs, a table, an entry, a procedure, a frame.
        x.counts(0, 8 + 3 + 5 + 4 + 4).counts(1, 6).counts(2, 0).counts(3, 0).counts(4, 0).counts(5, 0).counts(6, 0);
        x.counts(7, 900 - 2 - 3 - 5 - 2 - 3).counts(8, 0);
        x.run("(finalize! p f) (finalize! t f) (finalize! p f) (hash p) (hash f) (hash p) (print 'abc)");
        x.counts(2, 0).counts(3, 0).counts(4, 3).counts(6, 4).counts(8, 2);
        x.run("(gc)");
        x.counts(0, 20).counts(1, 5).counts(2, 1).counts(4, 3).counts(8, 2);
        x.feed("(print 1)");
        x.counts(5, 20);
        x.scheme().fetch();
        x.counts(6, 0);
        for (int what : wrong) {
            x.counts(what, -1);
        }
        x.counts(5, 20);
    }

    private static void everythingStaysFromRunToRun() {
        Check x = new Check(500);
        x.ends("(define f (lambda (n) (if (< n 1) '(end) (cons n (f (- n 1))))))", 0);
        x.fails("(define f 5) )", 1, 13);
        x.ends("(define g f) (car 5)", 9);
        x.writes("(print (g 3))", "(3 2 1 end)\n");
        for (int i = 0; i < 40; i++) {
            x.ends("(define p" + i + " (lambda () " + i + "))", 0);
        }
        x.writes("(print (p0)) (print (p17)) (print (p39)) (print (f 1))", "0\n17\n39\n(1 end)\n");
        // Objects are apart from each other.
        Check y = new Check(500);
        y.ends("f", 5);
        y.counts(0, 0);
    }
}
