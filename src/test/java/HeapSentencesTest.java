/** 'Terms', what is HELD, THE HEAP and COLLECTING: a test for each sentence. */
public final class HeapSentencesTest {
    /** What makes an object in a heap with f, g, t and p, and the cells of what it makes. */
    private static final String[][] MAKERS = {
        {"(cons 1 2)", "4"}, {"(vector 0 0)", "3"}, {"(vector 50 0)", "53"}, {"(lambda () 1)", "4"}, {"(let () 1)", "3"},
        {"(let ((a 1) (b 2)) 1)", "5"}, {"(f)", "3"}, {"(g 1 2 3)", "6"}, {"(weak 1)", "3"}, {"(ephemeron 1 2)", "4"},
        {"(table)", "3"}, {"(table-put! t 1 2)", "5"}, {"'(1)", "4"}
    };
    private static final int H = 300;

    public static void main(String[] args) {
        framesThatAreHeld();
        valuesThatAreHeld();
        listsThatAreHeld();
        valuesOfTheQueue();
        collectedFirst();
        tooFewStill();
        theFuelOfACollection();
        whatIsLive();
        whatIsInSomethingLive();
        tablesAndEphemerons();
        proceduresOfRegistrations();
        whatIsNoObject();
        cleared();
        toTheQueue();
        reckonedAnew();
        theQueueIsCalled();
        theQueueBehindADatum();
        Check.end();
    }

    /**
     * note gives its operand, and w is a weak reference to it; left is, behind a collection, what w has.
     * waste has at least one collection, which is not gc's.
     */
    private static Check noter() {
        Check x = new Check(400);
        x.run("(define w 0) (define note (lambda (o) (set! w (weak o)) o)) (define left (lambda () (gc) (weak-get w)))");
        x.run("(define show (lambda () (print (left)))) (define log (lambda (o) (print o)))");
        x.run("(define waste (lambda () (let ((n 6)) (while (< 0 n) (vector 97 0) (set! n (- n 1))))))");
        return x;
    }

    private static void framesThatAreHeld() {
        Check.sentence("HELD are: in each form that is not through the frame in which it is evaluated");
        String[] forms = {
            "(show)", "(begin (show) 1)", "(if (begin (show) 1) 1)", "(if #t (show))", "(if #f 1 (show))", "(set! y (show))",
            "(let ((z (show))) 1)", "(let ((z 1)) (show))", "(while (begin (show) #f))", "(and (show) 1)", "(or #f (show))",
            "(car (cons (show) 1))", "((lambda (z) 1) (show))", "((lambda () (show)))"
        };
        for (String form : forms) {
            noter().writes("((lambda (x y) " + form + ") (note (cons 1 2)) 0)", "(1 . 2)\n").writes("(show)", "#f\n");
            noter().writes("(let ((x (note (cons 1 2))) (y 0)) " + form + ")", "(1 . 2)\n").writes("(show)", "#f\n");
        }
        // Of forms that are through, nothing is held.
        noter().writes("(begin (let ((x (note (cons 1 2)))) 1) (show))", "#f\n")
                .writes("(begin ((lambda (x) 1) (note (cons 1 2))) (show))", "#f\n")
                .writes("((lambda () (note (cons 1 2)) (show)))", "#f\n");
    }

    private static void valuesThatAreHeld() {
        Check.sentence("in a let and a call the values of its e that there are, until the frame is made, or the primitive is "
                + "through");
        noter().writes("(print (cons (note (cons 1 2)) (left)))", "((1 . 2) 1 . 2)\n").writes("(show)", "#f\n")
                .writes("(let ((a (note (cons 1 2))) (b (left))) (print b))", "(1 . 2)\n").writes("(show)", "#f\n")
                .writes("(print ((note (lambda (x) x)) (left)))", "#<procedure>\n").writes("(show)", "#f\n")
                .writes("((note (lambda (x) (show))) 1)", "#f\n")
                .writes("((lambda (x) (set! x 0) (show)) (note (cons 1 2)))", "#f\n")
                .writes("(let ((x (note (cons 1 2)))) (set! x 0) (show))", "#f\n")
                .writes("(begin (car (cons (note (cons 1 2)) 1)) (show))", "#f\n");
        // Nothing else holds a value: not what a form gave, or a test was.
        String[] forms = {
            "(begin % (show))", "(if % (show))", "(and % (show))", "(or (not %) (show))", "(begin (or #f %) (show))",
            "(let ((a (begin % 1)) (b (show))) 1)", "(cons (begin % 1) (show))", "(while % (show) (set! note not))"
        };
        for (String form : forms) {
            noter().writes(form.replace("%", "(note (cons 1 2))"), "#f\n");
        }
        noter().writes("(note (cons 1 2)) (show)", "#f\n");
        // And nothing is held any more behind a fault.
        noter().ends("(cons (note (cons 1 2)) (car 1))", 9).writes("(show)", "#f\n")
                .ends("((lambda (x) (car 1)) (note (cons 1 2)))", 9)
                .writes("(show)", "#f\n");
        // While a primitive makes its object, its operands are there: with each free room, from none to all.
        for (int free = 0; free < 60; free++) {
            for (String maker : new String[] {"(cons # #)", "(vector 5 #)", "(weak #)", "(ephemeron # #)",
                    "(let ((a #) (b #)) a)", "((lambda (a b) b) # #)"}) {
                Check x = new Check(100);
                x.run("(vector " + (60 - free) + " 0)");
                x.ends(maker.replace("#", "(vector 10 7)"), 0);
            }
        }
    }

    private static void listsThatAreHeld() {
        Check.sentence("in (quote d) all that was made");
        for (int free = 0; free <= 50; free++) {
            Check x = new Check(100);
            x.run("(vector " + (97 - free) + " 0)");
            x.writes("(print '((1 (2)) 3 ((4) 5) 6 7))", "((1 (2)) 3 ((4) 5) 6 7)\n").counts(2, free < 44 ? 1 : 0);
        }
        new Check(100).ends("'(1 2 3 4 5 6 7 8 9 10 11 12 13 14 15 16 17 18 19 20 21 22 23 24 25)", 0).counts(2, 0)
                .ends("'(1 2 3 4 5 6 7 8 9 10 11 12 13 14 15 16 17 18 19 20 21 22 23 24 25 26)", 12).counts(2, 2).counts(0, 100)
                .ends("(gc)", 0).counts(0, 0);
    }

    private static void valuesOfTheQueue() {
        Check.sentence("the values of a queue's call until its frame is made");
        // The frame of the call needs a collection of its own: object and procedure outlive it.
        Check x = new Check(100);
        x.writes("(begin (finalize! (cons 5 6) (let ((n 7)) (lambda (o) (print (cons n o))))) (vector 80 0) (vector 85 0))",
                "(7 5 . 6)\n");
        x.counts(2, 2).counts(0, 4 + 4 + 4 + 4 + 4);
        // The procedure is held no more when its frame is made; the object is in the frame.
        noter().writes("(finalize! (cons 1 2) (note (lambda (o) (show) (print o)))) (gc)", "#f\n(1 . 2)\n")
                .writes("(finalize! (note (cons 1 2)) (lambda (o) (note o) (show) (set! o 0) (show))) (gc)", "(1 . 2)\n#f\n");
        Check y = new Check(100);
        y.run("(define v (vector 82 0)) (finalize! (cons 5 6) (let ((n 7)) (lambda (o) (set! v 0) (print (cons n o)))))");
        y.counts(0, 97).ends("(gc)", 12).counts(2, 2).counts(3, 0).counts(0, 97);
        y.writes("0", "").ends("(gc)", 0).counts(0, 85);
    }

    /** A heap with f, g, t and p, in which just so many cells are free; what fills it is held, or is not. */
    private static Check full(int free, boolean held) {
        Check x = new Check(H);
        x.run("(define f (lambda () 1)) (define g (lambda (a b c) 1)) (define t (table)) (define p (cons 1 2))");
        int rest = H - free - x.count(0);
        x.run((held ? "(define q " : "(begin ") + "(vector 97 0)) (define h (vector " + (rest - 203) + " 0))");
        x.run((held ? "(define r " : "(begin ") + "(vector 97 0))");
        Check.due("free cells", H - x.count(0), free);
        return x;
    }

    private static void collectedFirst() {
        Check.sentence("If an object that is to be made has more cells than H less those in use, it is COLLECTED first");
        for (String[] maker : MAKERS) {
            int cells = Integer.parseInt(maker[1]);
            full(cells, true).ends(maker[0], 0).counts(2, 0).counts(0, H);
            full(cells, false).ends(maker[0], 0).counts(2, 0).counts(0, H);
            full(cells - 1, false).ends(maker[0], 0).counts(2, 1).counts(0, H - (cells - 1) - 200 + cells);
            full(0, false).ends(maker[0], 0).counts(2, 1).counts(0, H - 200 + cells);
        }
        // What is no object needs no room.
        full(0, true).ends("1 'a '() #t car p (+ 1 2) (car p) (table-get t 1) (hash p) (cells) (if #t 1 2) (begin 1)", 0)
                .counts(2, 0);
        // An entry that is there needs none, either.
        full(5, true).ends("(table-put! t 1 2)", 0).counts(0, H).ends("(table-put! t 1 3)", 0).counts(2, 0)
                .ends("(table-put! t 2 3)", 12).counts(2, 1);
    }

    private static void tooFewStill() {
        Check.sentence("if they are too few still: fault 12 MEMORY");
        for (String[] maker : MAKERS) {
            int cells = Integer.parseInt(maker[1]);
            full(cells - 1, true).ends(maker[0], 12).counts(2, 1).counts(0, H - cells + 1);
            full(0, true).ends(maker[0], 12).counts(2, 1).counts(0, H);
        }
        // A collection that frees some cells, but too few.
        Check x = full(0, true);
        x.ends("(set! p 0)", 0).ends("(vector 2 0)", 12).counts(2, 1).counts(0, H - 4).ends("(vector 1 0)", 0).counts(2, 1)
                .counts(0, H);
        // More cells than H has at all.
        new Check(100).ends("(vector 97 0)", 0).counts(2, 0).ends("(vector 98 0)", 12).counts(2, 1).counts(0, 0)
                .ends("(vector 100 0)", 12).counts(2, 2);
        new Check(103).ends("(vector 100 0)", 0).counts(0, 103).counts(2, 0);
        new Check(102).ends("(vector 100 0)", 12).ends("(vector 99 0)", 0).counts(0, 102);
        // What was done stays done.
        Check y = new Check(100);
        y.ends("(define l '()) (while #t (set! l (cons 1 l)))", 12).counts(0, 100).counts(1, 25).ends("(set! l (cdr l))", 0)
                .ends("(set! l (cons 2 l))", 0).counts(0, 100).writes("(print (car l))", "2\n");
    }

    private static void theFuelOfACollection() {
        Check.sentence("Each collection takes 100 of the fuel first: fault 4, if there is less (nothing is collected then).");
        new Check(100).takes("(gc)", 102, 0, 0).takes("(gc)", 103, 0, 1).counts(2, 2).takes("(gc)", 101, 4, 99)
                .takes("(gc)", 2, 4, 0)
                .counts(2, 2).takes("(gc) (gc)", 204, 0, 0).takes("(gc) (gc)", 203, 4, 99).counts(2, 5)
                .takes("(gc)", 20000, 0, 19898);
        for (String[] maker : MAKERS) {
            Check x = full(0, false);
            x.takes(maker[0], 100, 4, 100 - fuelOf(maker[0])).counts(0, H).counts(2, 0);
            x.takes(maker[0], fuelOf(maker[0]) + 99, 4, 99).counts(0, H).counts(2, 0);
            x.takes(maker[0], fuelOf(maker[0]) + 100 + fuelBehind(maker[0]), 0, 0).counts(2, 1);
        }
        // Nothing is cleared, nothing comes to the queue, and the queue is not called.
        Check y = noter();
        y.run("(define k (weak (cons 1 2))) (finalize! (cons 3 4) log)");
        y.takes("(gc)", 101, 4, 99).counts(2, 0).counts(3, 0).counts(4, 1).counts(6, 0)
                .writes("(print (weak-get k))", "(1 . 2)\n");
        y.writes("(gc) (print (weak-get k))", "(3 . 4)\n#f\n");
        // Nor is what lies in it already.
        y.run("(begin (finalize! (cons 5 6) log) (waste) (car 1))");
        y.counts(3, 1).takes("(gc)", 101, 4, 99).counts(3, 1).writes("1", "(5 . 6)\n");
    }

    /** The evaluations ahead of the object: the form itself, and each e of a call or let. */
    private static int fuelOf(String maker) {
        switch (maker) {
            case "(f)":
            case "(table)":
                return 2;
            case "(let () 1)":
            case "(lambda () 1)":
            case "'(1)":
                return 1;
            case "(let ((a 1) (b 2)) 1)":
            case "(weak 1)":
                return 3;
            case "(g 1 2 3)":
            case "(table-put! t 1 2)":
                return 5;
            default:
                return 4;
        }
    }

    private static int fuelBehind(String maker) {
        return maker.startsWith("(let") || maker.startsWith("(f") || maker.startsWith("(g") ? 1 : 0;
    }

    private static void whatIsLive() {
        Check.sentence("LIVE are (no more than these): what is held; all global values; the two of each in the QUEUE");
        noter().ends("(define a (note (cons 1 2)))", 0).writes("(show) (set! a 0) (show)", "(1 . 2)\n#f\n")
                .ends("(define car (note (cons 1 2)))", 0).writes("(show) (define car 0) (show)", "(1 . 2)\n#f\n");
        // Nothing lives by being made last, printed, numbered or registered.
        noter().writes("(print (note (cons 1 2))) (show)", "(1 . 2)\n#f\n").writes("(hash (note (cons 1 2))) (show)", "#f\n")
                .writes("(finalize! (note (cons 1 2)) (lambda (o) 1)) (show)", "#f\n").writes("'(1 2 3) (show)", "#f\n");
        Check x = new Check(1000);
        x.ends("(cons 1 2) '(1 (2)) (vector 5 0) (lambda (x) x) (let ((a 1)) a) (weak 1) (ephemeron 1 2) (table-put! (table) 1 "
                + "2)", 0);
        x.ends("(gc)", 0).counts(0, 0).counts(1, 0);
        // In the queue: the object, its parts and the procedure's frame.
        Check y = noter();
        y.run("(begin (finalize! (cons (note (cons 1 2)) 3) (let ((n (cons 4 5))) (lambda (o) (print o) (print n)))) (waste) "
                + "(set! w 0) (waste) (car 1))");
        y.counts(3, 1).counts(4, 0).writes("1", "((1 . 2) . 3)\n(4 . 5)\n");
    }

    private static void whatIsInSomethingLive() {
        Check.sentence("what is in something live: a pair's values, a vector's");
        noter().ends("(define a (cons (note (cons 1 2)) 0))", 0).writes("(show) (set-car! a 0) (show)", "(1 . 2)\n#f\n")
                .ends("(define a (cons 0 (note (cons 1 2))))", 0).writes("(show) (set-cdr! a 0) (show)", "(1 . 2)\n#f\n")
                .ends("(define a (vector 1 (note (cons 1 2))))", 0).writes("(show) (vector-put! a 0 0) (show)", "(1 . 2)\n#f\n");
        for (int place : new int[] {0, 1, 50, 98, 99}) {
            noter().ends("(define a (vector 100 0)) (vector-put! a " + place + " (note (cons 1 2)))", 0)
                    .writes("(show) (vector-put! a " + place + " 0) (show)", "(1 . 2)\n#f\n");
        }
        Check.sentence("a frame's and the frame around it, a procedure's frame");
        noter().ends("(define a (let ((x (note (cons 1 2)))) (lambda () (set! x 0))))", 0)
                .writes("(show) (a) (show)", "(1 . 2)\n#f\n")
                .ends("(define a (let ((x (note (cons 1 2)))) (let () (let ((y 1)) (lambda () 1)))))", 0)
                .writes("(show) (set! a 0) (show)", "(1 . 2)\n#f\n")
                .ends("(define a (let ((b 1) (c 2) (d 3) (e 4) (f 5) (g 6) (h 7) (x (note (cons 1 2)))) (lambda () 1)))", 0)
                .writes("(show) (set! a 0) (show)", "(1 . 2)\n#f\n")
                .ends("(define a ((lambda (x) (lambda () x)) (note (cons 1 2))))", 0)
                .writes("(show) (set! a 0) (show)", "(1 . 2)\n#f\n");
        Check.sentence("a weak reference's not");
        noter().ends("(define a (weak (note (cons 1 2))))", 0).writes("(show)", "#f\n")
                .ends("(define a (weak (weak (note (cons 1 2)))))", 0)
                .writes("(show)", "#f\n").ends("(define a (weak (cons (note (cons 1 2)) 0)))", 0).writes("(show)", "#f\n");
    }

    private static void tablesAndEphemerons() {
        Check.sentence("of a table, entries whose key is live, and their values");
        noter().ends("(define t (table)) (define k (cons 0 0)) (table-put! t k (note (cons 1 2)))", 0)
                .writes("(show)", "(1 . 2)\n")
                .writes("(set! k 0) (show) (print (table-size t))", "#f\n0\n");
        // The table does not hold its keys, not even by their values, and not by those of other entries in a ring.
        noter().ends("(define t (table)) (table-put! t (note (cons 1 2)) 5)", 0)
                .writes("(show) (print (table-size t))", "#f\n0\n")
                .ends("(let ((k (note (cons 1 2)))) (table-put! t k (cons k k)))", 0)
                .writes("(show) (print (table-size t))", "#f\n0\n")
                .ends("(let ((k (note (cons 1 2))) (l (cons 3 4))) (table-put! t k l) (table-put! t l k))", 0)
                .writes("(show) (print (table-size t))", "#f\n0\n");
        // A value may be the key of another entry, whichever came first.
        noter().ends("(define t (table)) (define a (cons 0 1)) (let ((b (cons 0 2)) (c (cons 0 3))) (table-put! t a b) "
                + "(table-put! t b c)"
                + "(table-put! t c (note (cons 1 2))))", 0)
                .writes("(show) (print (table-size t)) (set! a 0) (show) (print (table-size t))", "(1 . 2)\n3\n#f\n0\n");
        noter().ends("(define t (table)) (define a (cons 0 1)) (let ((b (cons 0 2)) (c (cons 0 3))) (table-put! t c (note (cons "
                + "1 2)))"
                + "(table-put! t b c) (table-put! t a b))", 0)
                .writes("(show) (print (table-size t)) (set! a 0) (show) (print (table-size t))", "(1 . 2)\n3\n#f\n0\n");
        // A table that is not live holds nothing, though its keys live.
        noter().ends("(define k (cons 0 0)) (table-put! (table) k (note (cons 1 2)))", 0).writes("(show)", "#f\n");
        Check x = new Check(200);
        x.ends("(define t (table)) (define k (cons 0 0)) (table-put! t k (cons 1 2)) (table-put! t (cons 1 1) 1) (gc)", 0)
                .counts(0, 3 + 4 + 5 + 4).counts(1, 4);
        x.ends("(set! t 0) (gc)", 0).counts(0, 4).counts(1, 1);
        Check.sentence("an ephemeron's value, if its key is live");
        noter().ends("(define k (cons 0 0)) (define e (ephemeron k (note (cons 1 2))))", 0)
                .writes("(show) (set! k 0) (show)", "(1 . 2)\n#f\n")
                .ends("(define e (ephemeron (note (cons 1 2)) 5))", 0).writes("(show) (print (ephemeron-value e))", "#f\n#f\n")
                .ends("(define e (let ((k (cons 0 0))) (ephemeron k (cons k (note (cons 1 2))))))", 0)
                .writes("(show) (print (ephemeron-key e))", "#f\n#f\n")
                .ends("(define e (ephemeron e (note (cons 1 2))))", 0).writes("(show)", "#f\n")
                .ends("(define k (cons 0 0)) (ephemeron k (note (cons 1 2)))", 0).writes("(show)", "#f\n");
        // The key may be found far behind the ephemeron, or by the value of another one; and many may have one key.
        noter().ends("(define e 0) (define d 0) (define c 0) (define z (vector 3 (cons 0 (cons 0 (cons 0 0)))))", 0)
                .ends("(let ((k (cdr (cdr (vector-get z 2))))) (set! c (ephemeron k '(c))) (set! d (ephemeron k '(d)))"
                        + "(set! e (ephemeron (ephemeron-value d) (note (cons 1 2)))))", 0)
                .writes("(show) (print (ephemeron-value c)) (print (ephemeron-value d))", "(1 . 2)\n(c)\n(d)\n")
                .writes("(set! z 0) (show) (print (ephemeron-value c)) (print (ephemeron-key d))", "#f\n#f\n#f\n");
        // A table may have itself as a key: it is live, and so is the value.
        noter().ends("(define t (table)) (table-put! t t (note (cons 1 2)))", 0)
                .writes("(show) (set! t 0) (show)", "(1 . 2)\n#f\n");
    }

    private static void proceduresOfRegistrations() {
        Check.sentence("the procedure of a registration whose object is live");
        noter().ends("(define o (cons 0 0)) (finalize! o (note (lambda (x) 1)))", 0).writes("(show)", "#<procedure>\n")
                .counts(4, 1)
                .writes("(set! o 0) (gc) (show)", "#f\n").counts(4, 0);
        noter().ends("(define o (cons 0 0)) (finalize! o (let ((y (note (cons 1 2)))) (lambda (x) 1)))", 0)
                .writes("(show) (set! o 0) (gc) (show)", "(1 . 2)\n#f\n");
        // An object does not live by its own registration, nor two by each other's.
        noter().writes("(let ((o (note (cons 1 2)))) (finalize! o (lambda (x) (print (eq? x o))))) (show)", "#t\n#f\n")
                .counts(4, 0);
        noter().writes("(let ((a (cons 1 1)) (b (cons 2 2))) (finalize! a (lambda (x) (print b))) (finalize! b (lambda (x) "
                + "(print a)))) (gc)",
                "(2 . 2)\n(1 . 1)\n").counts(4, 0);
        // A live one's procedure may have what another registration is of.
        noter().ends("(define o (cons 0 0)) (let ((p (cons 1 1))) (finalize! p (let ((y (note (cons 1 2)))) (lambda (x) 1))) "
                + "(finalize! o (lambda (x) p)))", 0)
                .writes("(show)", "(1 . 2)\n").counts(4, 2);
    }

    private static void whatIsNoObject() {
        Check.sentence("(What is no object is always live.)");
        for (String key : new String[] {"0", "7", "'a", "#t", "#f", "'()", "car"}) {
            noter().ends("(define r (weak " + key + ")) (define e (ephemeron " + key
                    + " (note (cons 1 2)))) (define t (table)) (table-put! t " + key + " 5)", 0)
                    .writes("(show) (print (eq? (weak-get r) " + key + ")) (print (eq? (ephemeron-key e) " + key
                    + ")) (print (table-get t " + key + "))",
                            "(1 . 2)\n#t\n#t\n5\n");
        }
    }

    private static void cleared() {
        Check.sentence("Then each weak reference whose value is not live is CLEARED, each ephemeron whose key is not live is "
                + "BROKEN");
        noter().ends("(define a (cons 1 2)) (define r (weak a)) (define s (weak a)) (define e (ephemeron a 1)) (define d "
                + "(ephemeron a a))", 0)
                .writes("(gc) (print (weak-get r)) (print (weak-get s)) (print (ephemeron-value e)) (print (ephemeron-value d))",
                "(1 . 2)\n(1 . 2)\n1\n(1 . 2)\n")
                .writes("(set! a 0) (gc) (print (weak-get r)) (print (weak-get s)) (print (ephemeron-key e)) (print "
                + "(ephemeron-value e)) (print (ephemeron-key d))",
                        "#f\n#f\n#f\n#f\n#f\n");
        // Also of what has the cells of something that is gone.
        new Check(100).writes("(cons 1 2) (cons 1 2) (gc) (define w (weak (cons 3 4))) (gc) (print (weak-get w))", "#f\n");
        new Check(100).writes("(cons 1 2) (cons 1 2) (gc) (define e (ephemeron (cons 3 4) 5)) (gc) (print (ephemeron-value e))",
                "#f\n");
        new Check(100).writes("(define t (table)) (table-put! t (cons 1 2) 3) (gc) (print (table-size t))", "0\n");
        // By any collection, not by gc alone.
        noter().writes("(define r (weak (cons 1 2))) (define e (ephemeron (cons 1 2) 1)) (waste) (print (weak-get r)) (print "
                + "(ephemeron-value e))", "#f\n#f\n");
        Check.sentence("entries whose key is not live are gone from their tables");
        noter().ends("(define t (table)) (define l '()) (define i 0)", 0)
                .ends("(while (< i 9) (let ((k (cons i i))) (table-put! t k i) (if (= 1 (remainder i 3)) (set! l (cons k l)))) "
                + "(set! i (+ i 1)))", 0)
                .writes("(print (table-size t)) (gc) (print (table-size t)) (print (table-get t (car l))) (print (table-get t "
                + "(car (cdr (cdr l)))))", "9\n3\n7\n1\n")
                .writes("(set! l (cdr l)) (gc) (print (table-size t)) (print (table-get t (car l))) (set! l 0) (gc) (print "
                + "(table-size t))", "2\n4\n0\n");
        Check.sentence("(of what is not live itself, too)");
        noter().ends("(define back 0) (define save (lambda (o) (set! back o))) (define get (lambda (i) (vector-get back i)))", 0)
                .ends("(let ((v (vector 4 0)) (k (cons 1 2))) (vector-put! v 0 (weak k)) (vector-put! v 1 (ephemeron k 5)) "
                + "(vector-put! v 2 (table))"
                        + "(table-put! (vector-get v 2) k 6) (vector-put! v 3 k) (finalize! v save))", 0)
                .writes("(gc) (print (weak-get (get 0))) (print (ephemeron-key (get 1))) (print (ephemeron-value (get 1))) "
                + "(print (table-size (get 2)))"
                        + "(print (table-get (get 2) (get 3))) (print (get 3))", "#f\n#f\n#f\n0\n#f\n(1 . 2)\n");
        // What is not live itself keeps what is.
        noter().ends("(define back 0) (define save (lambda (o) (set! back o))) (define get (lambda (i) (vector-get back i))) "
                + "(define k (cons 1 2))", 0)
                .ends("(let ((v (vector 3 0))) (vector-put! v 0 (weak k)) (vector-put! v 1 (ephemeron k '(5))) (vector-put! v 2 "
                + "(table))"
                        + "(table-put! (vector-get v 2) k '(6)) (finalize! v save))", 0)
                .writes("(gc) (print (weak-get (get 0))) (print (ephemeron-value (get 1))) (print (table-get (get 2) k)) (gc) "
                + "(print (table-get (get 2) k))",
                        "(1 . 2)\n(5)\n(6)\n(6)\n");
    }

    private static void toTheQueue() {
        Check.sentence("Then each registration whose object is not live leaves the others, in order, and goes to the queue "
                + "(object, procedure), behind what is there.");
        Check x = noter();
        x.ends("(define a (cons 'a 0)) (define b (cons 'b 0)) (finalize! (cons 1 0) log) (finalize! a log) (finalize! (cons 2 "
                + "0) log) (finalize! b log)"
                + "(finalize! a (lambda (o) (print 'again)))", 0).counts(4, 5);
        x.ends("(begin (waste) (car 1))", 9).counts(3, 2).counts(4, 3);
        x.ends("(begin (set! b 0) (waste) (set! a 0) (waste) (car 1))", 9).counts(3, 5).counts(4, 0);
        x.writes("0", "(1 . 0)\n(2 . 0)\n(b . 0)\n(a . 0)\nagain\n").counts(3, 0);
        // One object with several registrations: all of them, in their order.
        x.writes("(let ((o (cons 1 2))) (finalize! o log) (finalize! o (lambda (p) (print 'two))) (finalize! o log)) (gc)",
                "(1 . 2)\ntwo\n(1 . 2)\n").counts(4, 0);
    }

    private static void reckonedAnew() {
        Check.sentence("Then what is live is reckoned anew, with the queue as it is; all other objects are gone, and their "
                + "cells are in use no more.");
        Check x = new Check(500);
        x.run("(define log (lambda (o) 1)) (define waste (lambda () (let ((n 6)) (while (< 0 n) (vector 97 0) (set! n (- n "
                + "1))))))");
        x.ends("(gc)", 0).counts(0, 8).counts(1, 2);
        // The object, its parts, the procedure and its frame are there as long as they are in the queue.
        x.ends("(begin (finalize! (cons (cons 1 2) 3) (let ((n 5)) (lambda (o) n))) (waste) (waste) (car 1))", 9).counts(3, 1);
        x.ends("(begin (waste) (waste) (car 1))", 9).counts(3, 1);
        x.ends("0", 0).counts(3, 0).ends("(gc)", 0).counts(0, 8).counts(1, 2);
        // gc ends with what its own queue has left: the call's frame, the object and the procedure until the next one.
        x.ends("(begin (finalize! (cons 1 2) log) (gc))", 0).counts(0, 8 + 4 + 4).counts(1, 4).ends("(gc)", 0).counts(0, 8);
        // What comes back stays, and its number, too; its registration is gone.
        x.writes("(define back 0) (let ((o (cons 1 2))) (print (hash o)) (finalize! o (lambda (p) (set! back p)))) (gc) (print "
                + "back) (print (hash back))",
                "1\n(1 . 2)\n1\n").counts(4, 0);
        x.ends("(gc)", 0).counts(0, 12).ends("(set! back 0) (gc)", 0).counts(0, 8);
    }

    private static void theQueueIsCalled() {
        Check.sentence("gc collects, and then the QUEUE IS CALLED: as long as there is one, the first leaves it, and its "
                + "procedure is called with its object");
        noter().writes("(begin (gc) (print 'none))", "none\n")
                .writes("(begin (finalize! (cons 1 2) log) (gc) (print 'end))", "(1 . 2)\nend\n")
                .writes("(begin (finalize! (cons 1 2) log) (finalize! (cons 3 4) log) (gc) (print 'end))",
                "(1 . 2)\n(3 . 4)\nend\n")
                // What comes to it meanwhile is called, too.
                .writes("(begin (finalize! (cons 1 2) (lambda (o) (finalize! (cons 3 4) log) (waste) (print 'first))) (gc) "
                + "(print 'end))", "first\n(3 . 4)\nend\n")
                // A gc of a call in it calls the rest.
                .writes("(begin (finalize! (cons 1 2) (lambda (o) (gc) (print 'first))) (finalize! (cons 3 4) log) (gc) (print "
                + "'end))", "(3 . 4)\nfirst\nend\n");
        Check.sentence("(for no fuel by itself; with a fault it is gone)");
        noter().ends("(finalize! (cons 1 2) (lambda (o) 1)) (finalize! (cons 1 2) (lambda (o) 1 2))", 0).takes("(gc)", 105, 0, 0);
        noter().ends("(finalize! (cons 1 2) (lambda (o) 1))", 0).takes("(gc)", 102, 4, 0).counts(3, 0).counts(4, 0);
        Check x = noter();
        x.ends("(define bad (lambda (o) (print o) (car 1))) (finalize! (cons 1 2) log) (finalize! (cons 3 4) bad) (finalize! "
                + "(cons 5 6) log)", 0);
        x.ends("(begin (gc) (print 'never)) (print 'never)", 9).counts(3, 1).counts(4, 0);
        Check.due("those ahead of it, and it", x.output(), "(1 . 2)\n(3 . 4)\n");
        x.writes("(print 'next)", "next\n(5 . 6)\n").counts(3, 0);
        Check.sentence("the value counts for nothing");
        noter().writes("(finalize! (cons 1 2) (lambda (o) 'value)) (print (gc))", "()\n")
                .writes("(finalize! (cons 1 2) (lambda (o) (note o))) (gc) (show)", "#f\n");
    }

    private static void theQueueBehindADatum() {
        Check.sentence("The queue is also called when a datum of the program has been evaluated (whatever lies in it, from an "
                + "earlier run, too)");
        Check x = noter();
        x.writes("(begin (finalize! (cons 1 2) log) (waste) (print 'end)) (print 'next)", "end\n(1 . 2)\nnext\n");
        x.ends("(begin (finalize! (cons 1 2) log) (finalize! (cons 3 4) log) (waste) (car 1))", 9).counts(3, 2);
        // A run without a datum, or with a fault of its text, calls nothing; nor does a refused one.
        x.writes("", "").failsAt(1, "@)").failsAt(3, "@()").counts(3, 2);
        Check.due("refused", x.scheme().run(1, 1), -1);
        Check.due("no fuel", x.run("1", 0), 4);
        x.counts(3, 2).writes("(define y 'first) (print y)", "(1 . 2)\n(3 . 4)\nfirst\n").counts(3, 0);
        // Behind the last datum, too.
        x.writes("1 (begin (finalize! (cons 5 6) log) (waste))", "(5 . 6)\n");
        Check.sentence("not by other collections");
        x.writes("(begin (finalize! (cons 1 2) log) (waste) (waste) (print 'end))", "end\n(1 . 2)\n");
        x.writes("(let ((a 1)) (finalize! (cons 1 2) log) (waste) ((lambda () (waste) (print 'inner))) (print 'end))",
                "inner\nend\n(1 . 2)\n");
    }
}
