/** Promises 1 to 6: a test for each sentence that names a bound, a refused call, or what is there at first. */
public final class PromiseSentencesTest {
    public static void main(String[] args) {
        cells();
        nothingInUse();
        feed();
        feedRefused();
        run();
        runRefused();
        runFaults();
        whatStays();
        place();
        fetch();
        count();
        countOfAnother();
        countOfFuel();
        refusedCalls();
        twoObjects();
        manyCalls();
        Check.end();
    }

    private static void cells() {
        Check.sentence("H is cells, if that is 100 .. 20000, otherwise 2000.");
        int[] given = {100, 101, 102, 103, 1999, 2000, 2001, 19999, 20000, 99, 20001, 50, 0, -1, -100, -2000, 65636,
            Integer.MIN_VALUE, Integer.MAX_VALUE};
        for (int cells : given) {
            int due = cells >= 100 && cells <= 20000 ? cells : 2000;
            Check x = new Check(cells);
            Check.due(due + " of " + cells, fill(x, due), 0);
            x.counts(0, due).counts(2, 0);
            Check y = new Check(cells);
            Check.due(due + 1 + " of " + cells, fill(y, due + 1), 12);
            y.counts(2, 1);
        }
    }

    /** Makes so many cells of objects that all are held: 50 at a time, and then a vector of the rest. */
    private static int fill(Check x, int cells) {
        int times = Math.max(0, (cells - 103 + 49) / 50);
        x.run("(define l '()) (define i 0)");
        x.run("(while (< i " + times + ") (set! l (cons (vector 43 0) l)) (set! i (+ i 1)))");
        x.counts(0, 50 * times);
        return x.run("(define rest (vector " + (cells - 50 * times - 3) + " 0))");
    }

    private static void nothingInUse() {
        Check.sentence("Nothing is in use.");
        for (int cells : new int[] {100, 2000, 20000, 0}) {
            Check x = new Check(cells);
            for (int what = 0; what <= 8; what++) {
                x.counts(what, 0);
            }
            Check.due("place", x.scheme().place(), -1);
            Check.due("fetch", x.scheme().fetch(), 0L);
            Check.due("run(1, 0)", x.scheme().run(1, 0), -1);
            x.writes("(print (cells))", "0\n");
        }
    }

    private static void feed() {
        Check.sentence("20 bytes come behind the text, the highest of a first: true");
        WeakScheme x = new WeakScheme(100);
        // (print 'abcdefghijk) and then " (print 'l)"
        Check.due("feed", x.feed(0x28707269, 0x6E742027, 0x61626364, 0x65666768, 0x696A6B29), true);
        Check.due("bytes", x.count(5), 20);
        Check.due("feed", x.feed(0x20287072, 0x696E7420, 0x276C2920, 0x20202020, 0x20202020), true);
        Check.due("bytes", x.count(5), 40);
        Check.due("run", x.run(40, 99), 0);
        Check.due("fetch", x.fetch(), 0x0761626364656667L);
        Check.due("fetch", x.fetch(), 0x0768696A6B0A6C0AL);
        Check.due("fetch", x.fetch(), 0L);
        // Each of the 20 bytes has its place, those above 127, too.
        for (int place = 0; place < 20; place++) {
            for (int b : new int[] {0, 127, 128, 255}) {
                byte[] text = new byte[20];
                java.util.Arrays.fill(text, (byte) ' ');
                text[place] = (byte) b;
                WeakScheme y = new WeakScheme(100);
                Check.due("feed", Check.feedTwenty(y, text, 0), true);
                Check.due("run", y.run(20, 9), 1);
                Check.due("place of byte " + b, y.place(), place);
            }
        }
    }

    private static void feedRefused() {
        Check.sentence("false if more than 3000 would be there");
        WeakScheme x = new WeakScheme(100);
        for (int i = 0; i < 150; i++) {
            Check.due("feed " + i, x.feed(0x31203120, 0x31203120, 0x31203120, 0x31203120, 0x31202020), true);
        }
        Check.due("bytes", x.count(5), 3000);
        for (int i = 0; i < 3; i++) {
            Check.due("one more", x.feed(0x29292929, -1, -1, -1, -1), false);
            Check.due("it changes nothing", x.count(5), 3000);
        }
        Check.due("run", x.run(3000, 2000), 0);
        Check.due("fuel", x.count(7), 2000 - 150 * 9);
        Check.due("again", x.feed(0x31202020, 0x20202020, 0x20202020, 0x20202020, 0x20202020), true);
        Check.due("bytes", x.count(5), 20);
        Check.due("run", x.run(20, 1), 0);
    }

    private static void run() {
        Check.sentence("The first n bytes of the text are a program, which is read and run with so much fuel; there is no text "
                + "then: 0");
        Check x = new Check(500);
        x.feed("(print 1) (print 2) )))");
        Check.due("the first 19", x.scheme().run(19, 100), 0);
        Check.due("output", x.output(), "1\n2\n");
        x.counts(5, 0).counts(7, 94);
        x.feed("(print 1) (print 2) )))");
        Check.due("the first 9", x.scheme().run(9, 3), 0);
        Check.due("output", x.output(), "1\n");
        x.counts(5, 0).counts(7, 0);
        x.feed("(print 1) (print 2) )))");
        Check.due("none", x.scheme().run(0, 100), 0);
        Check.due("output", x.output(), "");
        x.counts(5, 0).counts(7, 100);
        Check.due("none, of none", x.scheme().run(0, 0), 0);
        x.counts(7, 0);
        // What stands behind them is not there for the program.
        String[] texts = {"#tt", "#fx", "123a", "12345678901234", "car1", "-1", "1)", "1;\t", "1'", "1(",
                "'abcdefghijklmnopqrstuvwxyz"};
        int[] lengths = {2, 2, 3, 3, 3, 1, 1, 2, 1, 1, 21};
        for (int i = 0; i < texts.length; i++) {
            new Check(100).cut(texts[i], lengths[i], 0, -1);
        }
        new Check(100).cut("#t", 1, 1, 1).cut("'1", 1, 1, 1).cut("(car)", 4, 1, 4).cut("'abcdefghijklmnopqrstuvwxyz", 22, 1, 1);
        // Also behind a fault there is none.
        for (String text : new String[] {")", "()", "(car 1)", "unknown", "'1".repeat(700)}) {
            x.feed(text + " 1 2 3");
            x.scheme().run(text.length(), 50);
            x.counts(5, 0);
            Check.due("nothing to run", x.scheme().run(1, 50), -1);
        }
    }

    private static void runRefused() {
        Check.sentence("-1, refused, if n is not 0 .. the bytes that there are, or fuel not 0 .. 20000.");
        Check x = new Check(500);
        x.takes(" (if)", 77, 3, 77);
        x.feed("(print 1)");
        int[][] wrong = {{-1, 5}, {21, 5}, {3000, 5}, {Integer.MIN_VALUE, 5}, {Integer.MAX_VALUE, 5}, {9, -1}, {9, 20001},
            {9, Integer.MIN_VALUE}, {9, Integer.MAX_VALUE}, {-1, -1}, {21, 20001}, {0, -1}, {0, 20001}, {20, 20001}};
        for (int[] call : wrong) {
            Check.due("run(" + call[0] + ", " + call[1] + ")", x.scheme().run(call[0], call[1]), -1);
            Check.due("place", x.scheme().place(), 1);
            x.counts(0, 0).counts(2, 0).counts(5, 20).counts(6, 0).counts(7, 77);
        }
        Check.due("run(20, 20000)", x.scheme().run(20, 20000), 1);
        x.feed("(print 1)");
        Check.due("run(9, 20000)", x.scheme().run(9, 20000), 0);
        x.feed("                    ");
        Check.due("run(20, 0)", x.scheme().run(20, 0), 0);
        Check.due("run(0, 20000)", x.scheme().run(0, 20000), 0);
        x.counts(7, 20000);
    }

    private static void runFaults() {
        Check.sentence("or a fault, 1 .. 12");
        String[] programs = {")", "'1".repeat(667), "()", "(while #t)", "unknown", "(1)", "(car)",
                "(define f (lambda () (f))) (f)", "(car 1)",
            "(quotient 1 0)", "(vector 101 0)", "(define l '()) (while #t (set! l (cons 1 l)))"};
        for (int i = 0; i < programs.length; i++) {
            Check.due(programs[i], new Check(1000).run(programs[i]), i + 1);
        }
    }

    private static void whatStays() {
        Check.sentence("what was done stays done (nothing is held any more, the queue stays as it is)");
        Check x = new Check(200);
        x.ends("(define a 1) (define p (cons 1 2)) (set-car! p 7) (print p) (hash p) (set! a (car 5)) (print 'never)", 9);
        x.counts(0, 4).counts(8, 1);
        Check.due("output", x.output(), "(7 . 2)\n");
        x.writes("(print a) (print p)", "1\n(7 . 2)\n");
        x.ends("(let ((v (vector 90 0))) ((lambda (x) (cons v (car 1))) (cons 1 2)))", 9).ends("(gc)", 0).counts(0, 4)
                .counts(1, 1);
        x.ends("(define log (lambda (o) (print o))) (begin (finalize! (cons 1 1) log) (finalize! (cons 2 2) log) (vector 97 0) "
                + "(vector 97 0) (car 1))", 9);
        x.counts(3, 2).counts(4, 0).counts(6, 0).writes("1", "(1 . 1)\n(2 . 2)\n").counts(3, 0);
    }

    private static void place() {
        Check.sentence("The place of the last run's fault 1, 2 or 3; -1 otherwise.");
        Check.due("at first", new Check(1000).scheme().place(), -1);
        String[] others = {"1", "", "(while #t)", "unknown", "(1)", "(car)", "(define f (lambda () (f))) (f)", "(car 1)",
                "(quotient 1 0)",
            "(vector 101 0)", "(define l '()) (while #t (set! l (cons 1 l)))"};
        for (String other : others) {
            Check x = new Check(1000);
            x.run(" )");
            Check.due("of 1", x.scheme().place(), 1);
            x.run(other);
            Check.due("behind " + other, x.scheme().place(), -1);
            x.run("'1".repeat(666) + " 1 1 1");
            Check.due("of 2", x.scheme().place(), 1337);
            x.run(other);
            Check.due("behind " + other, x.scheme().place(), -1);
            x.run("1 2 3 ()");
            Check.due("of 3", x.scheme().place(), 6);
            x.feed("1");
            x.scheme().fetch();
            x.scheme().count(0);
            Check.due("still", x.scheme().place(), 6);
            Check.due("refused", x.scheme().run(-1, 0), -1);
            Check.due("still", x.scheme().place(), 6);
            Check.due("none", x.scheme().run(0, 0), 0);
            Check.due("no more", x.scheme().place(), -1);
        }
        Check x = new Check(1000);
        x.run("");
        x.run("(");
        Check.due("at the end", x.scheme().place(), 1);
        x.feed(" ".repeat(2999) + "(");
        x.scheme().run(3000, 0);
        Check.due("at the end of all", x.scheme().place(), 3000);
    }

    private static void fetch() {
        Check.sentence("The next bytes that were written, at most 7, which are taken: in the highest byte how many, then these, "
                + "the first one highest; 0 if there are none.");
        String[] words = {"", "a", "ab", "abc", "abcd", "abcde", "abcdef", "abcdefg", "abcdefgh", "abcdefghijklm",
                "abcdefghijklmn"};
        for (String word : words) {
            Check x = new Check(500);
            x.run(word.isEmpty() ? "" : "(print '" + word + ")");
            String left = word.isEmpty() ? "" : word + "\n";
            while (!left.isEmpty()) {
                x.counts(6, left.length());
                int many = Math.min(7, left.length());
                long due = many;
                for (int i = 0; i < 7; i++) {
                    due = due << 8 | (i < many ? left.charAt(i) : 0);
                }
                Check.due("of " + left, x.scheme().fetch(), due);
                left = left.substring(many);
            }
            Check.due("none", x.scheme().fetch(), 0L);
            Check.due("none", x.scheme().fetch(), 0L);
            x.counts(6, 0);
        }
        // What one run has written waits for the next one's.
        Check x = new Check(500);
        x.run("(print 1)");
        x.run("(print 2) (car 1)");
        x.failsAt(1, "@)");
        Check.due("refused", x.scheme().run(1, 1), -1);
        Check.due("of both", x.scheme().fetch(), 0x04310A320A000000L);
    }

    private static void count() {
        Check.sentence("0 cells in use, 1 objects (frames and entries, too)");
        Check x = new Check(500);
        x.ends("(define t (table))", 0).counts(0, 3).counts(1, 1).ends("(table-put! t 1 2)", 0).counts(0, 8).counts(1, 2)
                .ends("(let () 1)", 0)
                .counts(0, 11).counts(1, 3).ends("(gc)", 0).counts(0, 8).counts(1, 2).ends("(define t 0) (gc)", 0).counts(0, 0)
                .counts(1, 0);
        Check.sentence("2 collections in all");
        x.counts(2, 2).ends("(gc) (gc)", 0).counts(2, 4).takes("(gc)", 101, 4, 99).counts(2, 4).failsAt(3, "(gc) @()")
                .counts(2, 4);
        Check.sentence("3 in the queue, 4 registrations");
        Check y = new Check(200);
        y.ends("(define f (lambda (o) 1)) (finalize! (cons 1 2) f) (finalize! (cons 1 2) f) (finalize! f f)", 0).counts(3, 0)
                .counts(4, 3);
        y.ends("(begin (vector 97 0) (vector 97 0) (car 1))", 9).counts(3, 2).counts(4, 1).ends("0", 0).counts(3, 0).counts(4, 1);
        Check.sentence("5 bytes of the text, 6 bytes that wait");
        Check z = new Check(200);
        z.feed("(print 1)");
        z.counts(5, 20).counts(6, 0);
        z.feed("1");
        z.counts(5, 40);
        Check.due("run", z.scheme().run(9, 9), 0);
        z.counts(5, 0).counts(6, 2).ends("(print 'abcdefgh)", 0).counts(6, 11);
        z.scheme().fetch();
        z.counts(6, 4);
        z.scheme().fetch();
        z.counts(6, 0);
        Check.sentence("8 numbers of identity that were given");
        Check w = new Check(200);
        w.counts(8, 0).ends("(hash 1) (hash 'a)", 0).counts(8, 0).ends("(define p (cons 1 2)) (hash p) (hash p)", 0).counts(8, 1)
                .ends("(hash (cons 1 2)) (gc) (hash p)", 0).counts(8, 2).ends("(set! p 0) (gc)", 0).counts(8, 2);
    }

    private static void countOfAnother() {
        Check.sentence("-1 for another what");
        Check x = new Check(200);
        for (int what : new int[] {-1, 9, 10, 16, 255, 256, -9, Integer.MIN_VALUE, Integer.MAX_VALUE}) {
            x.counts(what, -1);
        }
        x.ends("(cons 1 2)", 0).counts(-1, -1).counts(9, -1).counts(0, 4);
    }

    private static void countOfFuel() {
        Check.sentence("7 the fuel that the last run left (all of it with a fault 1, 2, 3; 0 at first)");
        Check x = new Check(500);
        x.counts(7, 0).takes("(+ 1 2)", 100, 0, 96).takes(")", 55, 1, 55).takes("'1".repeat(667), 56, 2, 56)
                .takes("1 2 ()", 57, 3, 57)
                .takes("", 58, 0, 58).takes("(while #t)", 59, 4, 0).takes("1 unknown 2", 60, 5, 58).takes("(car 1)", 61, 9, 58)
                .takes("1", 20000, 0, 19999).takes("(gc)", 150, 0, 48).takes("(gc)", 50, 4, 48).takes("1", 0, 4, 0);
        x.takes("1 2", 9, 0, 7);
        Check.due("refused", x.scheme().run(5, 5), -1);
        x.counts(7, 7);
    }

    private static String state(Check x) {
        StringBuilder state = new StringBuilder("place " + x.scheme().place());
        for (int what = 0; what <= 8; what++) {
            state.append(", ").append(x.count(what));
        }
        return state.toString();
    }

    private static void refusedCalls() {
        Check.sentence("A call that is refused changes nothing.");
        Check x = new Check(300);
        x.run("(define f (lambda (o) (print o))) (define p (cons 1 2)) (finalize! p f) (hash p) (print 'abc)");
        x.run("(begin (finalize! (cons 3 4) f) (vector 97 0) (vector 97 0) (vector 97 0) (car 1))");
        x.fails("  if", 3, 2);
        for (int i = 0; i < 150; i++) {
            x.scheme().feed(0x20202020, 0x20202020, 0x20202020, 0x20202020, 0x20202020);
        }
        String ahead = state(x);
        Check.due("what is there", ahead, "place 2, " + x.count(0) + ", " + x.count(1) + ", 1, 1, 1, 3000, 4, 20000, 1");
        Check.due("feed", x.scheme().feed(1, 2, 3, 4, 5), false);
        Check.due("behind a feed", state(x), ahead);
        for (int[] call : new int[][] {{-1, 0}, {3001, 0}, {0, -1}, {0, 20001}, {3000, 20001}}) {
            Check.due("run", x.scheme().run(call[0], call[1]), -1);
            Check.due("behind a run", state(x), ahead);
        }
        Check.due("count", x.count(9), -1);
        Check.due("behind a count", state(x), ahead);
        Check.due("all of the text is there", x.scheme().run(3000, 5), 0);
        x.writes("(print p)", "abc\n(1 . 2)\n(3 . 4)\n");
    }

    private static void twoObjects() {
        Check.sentence("All memory is the class's own.");
        Check x = new Check(100);
        Check y = new Check(200);
        x.ends("(define a '(1)) (define f (lambda (n) n)) (hash a) (print 'x)", 0);
        y.ends("a", 5).counts(0, 0).counts(8, 0).ends("(define f 7) (print 'y)", 0);
        x.writes("(print (f a))", "x\n(1)\n");
        y.writes("(print f)", "y\n7\n");
        x.feed("(print 1)");
        y.counts(5, 0).failsAt(1, "@)");
        Check.due("run", x.scheme().run(9, 9), 0);
        Check.due("place", y.scheme().place(), 0);
        Check.due("place", x.scheme().place(), -1);
        Check.due("output", x.output() + y.output(), "1\n");
    }

    private static void manyCalls() {
        Check.sentence("An object is used for at most 512 calls after it has been made");
        Check x = new Check(100);
        x.run("(define n 0)");
        for (int i = 1; i <= 170; i++) {
            // Three calls: a feed, a run and a count.
            Check.due("run " + i, x.run("(set! n (+ n 1))"), 0);
            x.counts(7, 19995);
        }
    }
}
