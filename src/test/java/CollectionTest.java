/** Promise 3: what a collection clears, breaks and lets go, registrations, and when the queue is called. */
public final class CollectionTest {
    public static void main(String[] args) {
        weakReferences();
        ephemerons();
        chainsOfEphemerons();
        manyOfOneKey();
        tables();
        registrations();
        theOrderOfTheQueue();
        proceduresOfRegistrations();
        whatComesBack();
        whatIsClearedComesBackCleared();
        deadTablesLoseTheirEntries();
        whenTheQueueIsCalled();
        faultsInTheQueue();
        theQueueIsDeep();
        fiveHundred();
        numbersAreGivenOnce();
        Check.end();
    }

    private static Check scheme() {
        return new Check(1000);
    }

    private static void weakReferences() {
        scheme().writes("(define p '(1)) (define w (weak p)) (gc) (print (weak-get w))", "(1)\n")
                .writes("(set! p 0) (print (weak-get w)) (gc) (print (weak-get w)) (gc) (print (weak-get w))", "(1)\n#f\n#f\n")
                .writes("(define w (weak 5)) (define u (weak 'a)) (define v (weak car)) (gc) (print (weak-get w))"
                        + "(print (weak-get u)) (print (weak-get v))", "5\na\n#<procedure>\n")
                .writes("(define w (weak (weak 1))) (gc) (print (weak-get w))", "#f\n")
                .writes("(define w (weak w)) (set! w (weak w)) (gc) (print (weak-get w))", "#f\n")
                .writes("(define w (weak (lambda () 1))) (define l (cons (weak '(1)) 2)) (gc) (print (weak-get w))"
                        + "(print (weak-get (car l)))", "#f\n#f\n")
                .writes("(define w 0) (set! w (weak (cons w w))) (gc) (print (weak-get w))", "#f\n");
    }

    private static void ephemerons() {
        scheme().writes("(define k '(k)) (define e (ephemeron k '(v))) (gc) (print (ephemeron-key e)) (print (ephemeron-value e))",
                        "(k)\n(v)\n")
                .writes("(set! k 0) (gc) (print (ephemeron-key e)) (print (ephemeron-value e))", "#f\n#f\n")
                // The value holds the key: this keeps neither.
                .writes("(define k '(k)) (define e (ephemeron k (cons k 1))) (gc) (print (ephemeron-value e)) (set! k 0) (gc)"
                        + "(print (ephemeron-value e)) (print (ephemeron-key e))", "((k) . 1)\n#f\n#f\n")
                .writes("(define e (ephemeron 'k '(v))) (gc) (print (ephemeron-value e)) (print (ephemeron-key e))", "(v)\nk\n")
                .writes("(define e (ephemeron e '(v))) (set! e (ephemeron e 1)) (gc) (print (ephemeron-value e))", "#f\n")
                .writes("(define e (ephemeron '(k) 5)) (gc) (print (ephemeron-value e)) (print (ephemeron-key e))", "#f\n#f\n");
        // What is broken holds nothing.
        Check x = scheme();
        x.run("(define e (ephemeron '(k) (vector 50 0))) (gc)");
        x.counts(0, 4).counts(1, 1);
        // A value without its ephemeron is not live, whatever its key.
        x.run("(define k '(k)) (define w (weak '(v))) (ephemeron k (weak-get w)) (gc)");
        x.writes("(print (weak-get w))", "#f\n");
    }

    private static void chainsOfEphemerons() {
        for (int order = 0; order < 2; order++) {
            Check x = scheme();
            x.run("(define k0 '(0)) (define k1 '(1)) (define k2 '(2)) (define k3 '(3)) (define w (weak k3))");
            String[] makes = {"(define a (ephemeron k0 k1))", "(define b (ephemeron k1 k2))", "(define c (ephemeron k2 k3))"};
            for (int i = 0; i < 3; i++) {
                x.run(makes[order == 0 ? i : 2 - i]);
            }
            x.run("(set! k1 0) (set! k2 0) (set! k3 0) (gc)");
            x.writes("(print (ephemeron-value a)) (print (ephemeron-value b)) (print (ephemeron-value c)) (print (weak-get w))",
                    "(1)\n(2)\n(3)\n(3)\n");
            x.writes("(set! k0 0) (gc) (print (ephemeron-value a)) (print (ephemeron-value c)) (print (weak-get w))",
                    "#f\n#f\n#f\n");
        }
    }

    /** All that waits for one key has its value, whatever is found ahead of the key. */
    private static void manyOfOneKey() {
        Check x = scheme();
        x.run("(define a 0) (define b 0) (define t (table)) (define u (table)) (define z (cons (cons 'k 0) 0))");
        x.run("(define k (car z)) (set! a (ephemeron k '(a))) (set! b (ephemeron k '(b))) (table-put! t k '(t)) (table-put! u k '(u))");
        x.run("(finalize! k (let ((n '(n))) (lambda (o) (print n)))) (finalize! k (let ((n '(m))) (lambda (o) (print n))))");
        x.run("(set! k 0) (gc) (vector 90 0) (vector 90 0) (vector 90 0)");
        x.writes("(print (ephemeron-value a)) (print (ephemeron-value b)) (print (table-get t (car z))) (print (table-get u (car z)))",
                "(a)\n(b)\n(t)\n(u)\n");
        x.writes("(set! z 0) (gc) (print (ephemeron-value a)) (print (ephemeron-value b)) (print (table-size t)) (print (table-size u))",
                "(n)\n(m)\n#f\n#f\n0\n0\n");
    }

    private static void tables() {
        scheme().writes("(define t (table)) (define k '(k)) (table-put! t k '(v)) (table-put! t '(x) 1) (table-put! t 5 '(5))"
                        + "(print (table-size t)) (gc) (print (table-size t)) (print (table-get t k)) (print (table-get t 5))",
                        "3\n2\n(v)\n(5)\n")
                .writes("(set! k 0) (gc) (print (table-size t)) (print (table-get t 5))", "1\n(5)\n")
                // The value holds the key: the entry is gone all the same.
                .writes("(define k '(k)) (table-put! t k (cons k k)) (set! k 0) (gc) (print (table-size t))", "1\n")
                // An entry's value may be another one's key.
                .writes("(define a '(a)) (define b '(b)) (define c '(c)) (table-put! t b c) (table-put! t a b)"
                        + "(set! b 0) (set! c 0) (gc) (print (table-size t)) (print (table-get t (table-get t a)))", "3\n(c)\n")
                .writes("(set! a 0) (gc) (print (table-size t))", "1\n");
        Check x = scheme();
        x.run("(define t (table)) (define k '(k)) (table-put! t k (vector 10 0)) (gc)");
        x.counts(0, 3 + 4 + 5 + 13).counts(1, 4);
        x.run("(set! k 0) (gc)");
        x.counts(0, 3).counts(1, 1);
        x.run("(define k '(k)) (table-put! t k 1) (set! t 0) (gc)");
        x.counts(0, 4).counts(1, 1);
        // All of a table's entries but some in its midst.
        Check y = scheme();
        y.run("(define t (table)) (define l '()) (define i 0) (while (< i 30) (let ((k (cons i i))) (table-put! t k i)"
                + "(if (= (remainder i 3) 0) (set! l (cons k l)))) (set! i (+ i 1))) (gc)");
        y.writes("(print (table-size t)) (while (pair? l) (print (table-get t (car l))) (set! l (cdr l)))",
                "10\n27\n24\n21\n18\n15\n12\n9\n6\n3\n0\n");
        y.writes("(gc) (print (table-size t)) (table-put! t 1 1) (print (table-size t)) (print (table-get t 1))", "0\n1\n1\n");
    }

    private static Check logger() {
        Check x = scheme();
        x.run("(define log (lambda (x) (print x))) (define keep '())");
        return x;
    }

    private static void registrations() {
        Check x = logger();
        x.writes("(define p '(1)) (finalize! p log) (gc) (print 'no)", "no\n").counts(3, 0).counts(4, 1);
        x.writes("(set! p 0) (print 'not-yet) (gc) (print 'done)", "not-yet\n(1)\ndone\n").counts(3, 0).counts(4, 0);
        x.writes("(gc) (gc)", "");
        x.writes("(finalize! '(2) log) (finalize! (vector 1 1) log) (finalize! (table) log) (finalize! (weak 1) log)"
                + "(finalize! (ephemeron 1 1) log) (finalize! (lambda () 1) log) (gc)",
                "(2)\n#<vector>\n#<table>\n#<weak>\n#<ephemeron>\n#<procedure>\n");
        // What can be seen from a dead object is there in its call.
        x.writes("(finalize! (cons '(a b) (vector 2 0)) (lambda (o) (print (car o)) (print (vector-get (cdr o) 1)))) (gc)",
                "(a b)\n0\n");
        x.run("(gc)");
        x.counts(0, 4).counts(1, 1);
    }

    private static void theOrderOfTheQueue() {
        Check x = logger();
        x.writes("(finalize! '(1) log) (finalize! '(2) log) (finalize! '(3) log) (gc)", "(1)\n(2)\n(3)\n");
        x.writes("(define a '(a)) (finalize! a log) (finalize! '(b) log) (finalize! a (lambda (o) (print 'second)))"
                + "(finalize! a log) (gc) (print 'now) (set! a 0) (gc)", "(b)\nnow\n(a)\nsecond\n(a)\n");
        // Those that stay close up, and keep their order.
        x.writes("(define b '(b)) (define c '(c)) (finalize! '(1) log) (finalize! b log) (finalize! '(2) log) (finalize! c log)"
                + "(finalize! b (lambda (o) (print 'b2))) (gc)", "(1)\n(2)\n").counts(4, 3);
        x.writes("(set! b 0) (gc) (print 'then) (set! c 0) (gc)", "(b)\nb2\nthen\n(c)\n").counts(4, 0);
        // Behind what is there: these were queued by two collections, with none called in between.
        x.run("(define a '(a)) (define b '(b)) (finalize! b log) (finalize! a log)");
        x.run("(define waste (lambda (n) (while (< 0 n) (vector 90 0) (set! n (- n 1)))))");
        x.writes("(begin (set! a 0) (waste 20) (set! b 0) (waste 20) (print 'end))", "end\n(a)\n(b)\n");
        x.writes("(begin (finalize! '(1) log) (waste 20) (finalize! '(2) log) (gc) (print 'end))", "(1)\n(2)\nend\n");
    }

    private static void proceduresOfRegistrations() {
        Check x = logger();
        // A procedure is kept by the object of its registration, and keeps what it has.
        x.run("(define p '(1)) (define w 0) (let ((f (let ((n '(n))) (lambda (o) (print n))))) (set! w (weak f))"
                + "(finalize! p f)) (gc)");
        x.writes("(print (weak-get w)) (set! p 0) (gc) (print (weak-get w)) (gc) (print (weak-get w))",
                "#<procedure>\n(n)\n#f\n#f\n");
        // So it is if the object is found only through others.
        x.run("(define l (cons (cons '(o) 1) 2)) (finalize! '(x) log) (finalize! (car (car l)) (let ((n '(n))) (lambda (o) (print n))))"
                + "(finalize! (car l) (let ((m '(m))) (lambda (o) (print m)))) (gc)");
        x.counts(4, 2).output();
        x.writes("(gc) (vector 90 0) (vector 90 0) (set! l 0) (gc)", "(n)\n(m)\n").counts(4, 0);
        // A procedure that has the object itself does not keep it.
        x.writes("(let ((o '(o))) (finalize! o (lambda (x) (print (eq? x o))))) (gc)", "#t\n").counts(4, 0);
        // Two that keep each other by their procedures only.
        x.writes("(let ((a '(a)) (b '(b))) (finalize! a (lambda (x) (print (cons x b)))) (finalize! b (lambda (x) (print (cons x a)))))"
                + "(gc)", "((a) b)\n((b) a)\n").counts(4, 0);
        // One whose procedure has another object keeps it while it is live itself.
        x.run("(define a '(a)) (let ((b '(b))) (finalize! b log) (finalize! a (lambda (x) (print b)))) (gc)");
        x.counts(4, 2);
        x.writes("(set! a 0) (gc) (print 'and)", "(b)\n(b)\nand\n").counts(4, 0);
        x.run("(gc)");
        x.counts(4, 0).counts(3, 0);
    }

    private static void whatComesBack() {
        Check x = logger();
        x.run("(define save (lambda (o) (set! keep o)))");
        x.writes("(finalize! '(1) save) (gc) (print keep) (gc) (print keep)", "(1)\n(1)\n").counts(4, 0);
        x.writes("(set! keep 0) (gc) (print keep)", "0\n");
        x.writes("(define again (lambda (o) (print o) (finalize! o again))) (finalize! '(2) again) (gc) (gc)", "(2)\n(2)\n");
        x.counts(4, 1);
        // The procedure of a registration is called even if no name has it any more.
        x.writes("(define other again) (define again (lambda (o) (print 'other))) (gc) (set! other 0) (gc)", "(2)\nother\n");
    }

    private static void whatIsClearedComesBackCleared() {
        Check x = logger();
        x.run("(define save (lambda (o) (set! keep o)))");
        // Seen from live ones: cleared though the object comes back.
        x.run("(define k '(k)) (define w (weak k)) (define e (ephemeron k 1)) (define t (table)) (table-put! t k 1)");
        x.writes("(finalize! k save) (set! k 0) (gc) (print keep) (print (weak-get w)) (print (ephemeron-key e))"
                + "(print (table-size t)) (print (table-get t keep))", "(k)\n#f\n#f\n0\n#f\n");
        // Those that are dead themselves are cleared, too, of dead ones; and keep live ones.
        x.run("(define live '(live)) (define dead '(dead))");
        x.run("(let ((v (vector 6 0)) (t (table))) (table-put! t live 'l) (table-put! t dead 'd) (vector-put! v 0 (weak live))"
                + "(vector-put! v 1 (weak dead)) (vector-put! v 2 (ephemeron live 'l)) (vector-put! v 3 (ephemeron dead 'd))"
                + "(vector-put! v 4 t) (vector-put! v 5 dead) (finalize! v save))");
        x.run("(define get (lambda (i) (vector-get keep i)))");
        x.writes("(set! dead 0) (gc) (print (weak-get (get 0))) (print (weak-get (get 1))) (print (ephemeron-value (get 2)))"
                + "(print (ephemeron-value (get 3))) (print (ephemeron-key (get 3))) (print (get 5))",
                "(live)\n#f\nl\n#f\n#f\n(dead)\n");
        x.writes("(print (table-size (get 4))) (print (table-get (get 4) live)) (print (table-get (get 4) (get 5)))",
                "1\nl\n#f\n");
    }

    private static void deadTablesLoseTheirEntries() {
        Check x = logger();
        x.run("(define save (lambda (o) (set! keep o)))");
        // The table, its key and its value are dead together: the table comes back empty.
        x.run("(let ((t (table)) (k '(k))) (table-put! t k '(v)) (finalize! (cons t k) save))");
        x.writes("(gc) (print keep) (print (table-size (car keep)))", "(#<table> k)\n0\n");
        x.run("(gc)");
        x.counts(1, 5);
        // A key that lives keeps the entry in a table that is dead, and its value comes back.
        x.run("(define k '(k)) (let ((t (table))) (table-put! t k '(v)) (finalize! t save)) (set! keep 0)");
        x.writes("(gc) (print (table-get keep k))", "(v)\n");
    }

    private static void whenTheQueueIsCalled() {
        Check x = logger();
        x.run("(define waste (lambda (n) (while (< 0 n) (vector 90 0) (set! n (- n 1)))))");
        // By gc at once; by other collections only when the program's datum has been evaluated.
        x.writes("(begin (finalize! '(1) log) (gc) (print 'end))", "(1)\nend\n");
        x.writes("(begin (finalize! '(1) log) (waste 30) (print 'end)) (print 'next)", "end\n(1)\nnext\n");
        // What lies in it from an earlier run is called behind the first datum.
        x.ends("(begin (finalize! '(1) log) (finalize! '(2) log) (waste 30) (car 1))", 9).counts(3, 2).counts(4, 0);
        x.writes("", "").counts(3, 2);
        x.fails(")", 1, 0).counts(3, 2);
        x.writes("(print 'a) (print 'b)", "a\n(1)\n(2)\nb\n").counts(3, 0);
        // gc calls what lies there already, ahead of what it found; and again what a call's own gc finds.
        x.ends("(begin (finalize! '(3) log) (waste 30) (finalize! '(4) log) (car 1))", 9).counts(3, 1).counts(4, 1);
        x.writes("(begin (gc) (print 'end))", "(3)\n(4)\nend\n");
        x.writes("(begin (finalize! '(5) (lambda (o) (print o) (gc) (print 'five))) (finalize! '(6) log) (gc) (print 'end))",
                "(5)\n(6)\nfive\nend\n");
        x.writes("(begin (finalize! '(7) (lambda (o) (finalize! '(8) log) (gc))) (gc) (print 'end))", "(8)\nend\n");
        // The value of gc, and of a call of the queue.
        x.writes("(print (gc)) (finalize! '(1) (lambda (o) 'value)) (print (gc))", "()\n()\n");
        // No fuel for the call by itself: gc and its name, 100, and the three of (print o).
        x.run("(finalize! '(1) log)");
        Check.due("fuel", x.run("(gc)", 105) + " " + x.count(7), "0 0");
        x.run("(finalize! '(1) log)");
        Check.due("fuel", x.run("(gc)", 104) + " " + x.count(7), "4 0");
        x.counts(3, 0).counts(4, 0);
    }

    private static void faultsInTheQueue() {
        Check x = logger();
        x.output();
        x.run("(define bad (lambda (o) (print o) (car 5) (print 'never)))");
        x.run("(finalize! '(1) log) (finalize! '(2) bad) (finalize! '(3) log)");
        x.ends("(begin (gc) (print 'end)) (print 'next)", 9).counts(3, 1);
        Check.due("output", x.output(), "(1)\n(2)\n");
        x.writes("0", "(3)\n").counts(3, 0);
        // A frame for which there is no room: the one that was called is gone, the other one stays.
        Check y = new Check(100);
        y.run("(define f (lambda (o) (print (vector-size o)))) (define v (vector 85 0)) (finalize! (vector 1 1) f)");
        y.ends("(finalize! (vector 1 2) f)", 0).counts(0, 4 + 88 + 4 + 4);
        y.ends("(gc)", 12).counts(3, 1).counts(4, 0).counts(0, 100);
        Check.due("no call", y.output(), "");
        // Now the first one's cells serve for the frame of the other one.
        y.writes("0", "1\n").counts(3, 0).counts(0, 100);
        y.writes("(gc)", "").counts(0, 92);
        // Too little fuel for the collection that a frame needs: gone, too.
        y.run("(finalize! (vector 5 0) f)");
        y.counts(0, 100);
        Check.due("too little fuel", y.run("(gc)", 201), 4);
        y.counts(3, 0).counts(4, 0).counts(7, 99);
        y.writes("0", "");
    }

    private static void theQueueIsDeep() {
        Check x = new Check(20000);
        x.run("(define log (lambda (o) (print o))) (define down (lambda (n) (if (< n 2) (gc) (down (- n 1)))))");
        x.writes("(finalize! '(1) log) (down 59)", "(1)\n");
        x.run("(finalize! '(1) log) (finalize! '(2) log)");
        x.ends("(down 60)", 8).counts(3, 1);
        x.writes("(print 'a)", "a\n(2)\n");
        x.run("(define deep (lambda (o) (down 59)))");
        x.ends("(finalize! '(1) deep) (gc)", 0);
        x.run("(define deep (lambda (o) (down 60)))");
        x.ends("(finalize! '(1) deep) (gc)", 8);
        // Calls in the queue that call the queue.
        x.run("(define again (lambda (o) (set-car! o (+ 1 (car o))) (finalize! (cons (car o) 0) again) (gc)))");
        x.ends("(finalize! (cons 0 0) again) (gc)", 8);
    }

    private static void fiveHundred() {
        Check x = new Check(20000);
        x.run("(define f (lambda (o) 1)) (define p '(1)) (define n 0)");
        x.run("(define many (lambda (n) (while (< 0 n) (finalize! p f) (set! n (- n 1)))))");
        x.ends("(many 500)", 0).counts(4, 500);
        x.ends("(many 1)", 11).counts(4, 500);
        x.run("(define waste (lambda (n) (while (< 0 n) (vector 90 0) (set! n (- n 1)))))");
        x.ends("(begin (set! p '(2)) (waste 300) (car 1))", 9).counts(3, 500).counts(4, 0);
        x.ends("(many 1)", 11).counts(3, 500).counts(4, 0);
        x.ends("0", 0).counts(3, 0);
        x.ends("(many 300)", 0);
        x.ends("(begin (set! p '(3)) (waste 300) (car 1))", 9).counts(3, 300).counts(4, 0);
        x.ends("(begin (many 200) (many 1))", 11).counts(3, 300).counts(4, 200);
        x.ends("0", 0).counts(3, 0).counts(4, 200);
        x.ends("(many 300)", 0).counts(4, 500);
        x.ends("(many 1)", 11);
        // The queue goes round in its rows: the order stays.
        x.run("(define p 0) (gc) (define log (lambda (o) (print (car o)))) (define i 0)");
        x.counts(3, 0).counts(4, 0);
        x.run("(while (< i 400) (finalize! (cons i i) log) (set! i (+ i 1)))");
        x.run("(gc)");
        StringBuilder due = new StringBuilder();
        for (int i = 0; i < 400; i++) {
            due.append(i).append('\n');
        }
        Check.due("in order", x.output(), due.toString());
    }

    private static void numbersAreGivenOnce() {
        Check x = scheme();
        x.writes("(define p '(1)) (print (hash p)) (print (hash '(2))) (gc) (print (hash '(3))) (print (hash p))", "1\n2\n3\n1\n");
        x.counts(8, 3);
        x.writes("(define i 0) (while (< i 500) (if (= 0 (hash (cons i i))) (print 'none)) (set! i (+ i 1))) (print (hash p))"
                + "(print (hash (cons 1 1)))", "1\n504\n");
        x.counts(8, 504);
        // A number stays with what comes back.
        x.writes("(define k 0) (finalize! p (lambda (o) (set! k o))) (set! p 0) (gc) (print (hash k)) (print k)", "1\n(1)\n");
    }
}
