/** Promises 3 and 4: which data are expressions, and fault 3 SHAPE with its place. */
public final class ShapeTest {
    public static void main(String[] args) {
        expressionsThatAreNone();
        countsOfEachForm();
        calls();
        lambdas();
        lets();
        assignments();
        quotes();
        theFirstFromTheLeft();
        nothingIsDoneAheadOfIt();
        Check.end();
    }

    private static final Check X = new Check(2000);

    /** The fault is where the text has its first @, which is left out. */
    private static void at(String text) {
        int place = text.indexOf('@');
        X.fails(text.replace("@", ""), 3, place);
    }

    /** The shape is right: without fuel, the fault is 4. */
    private static void right(String text) {
        Check.due(text, X.run(text, 0), 4);
    }

    private static void expressionsThatAreNone() {
        at("@()");
        at("1 @()");
        at("(print @())");
        for (String special : "quote if set! define lambda let begin while and or".split(" ")) {
            at("@" + special);
            at("(print @" + special + ")");
            at("(if 1 2 @" + special + ")");
            at("(" + (special.equals("and") ? "or" : "and") + " @" + special + ")");
            at("(let ((x @" + special + ")) 1)");
            at("(lambda (x) x @" + special + ")");
        }
        right("1");
        right("#f");
        right("quote1");
        right("car");
    }

    private static String list(String head, int many) {
        return "(" + head + " 1".repeat(many) + ")";
    }

    private static void countsOfEachForm() {
        int[][] bounds = {{1, 1}, {2, 3}, {1, 999}, {1, 999}, {0, 999}, {0, 999}};
        String[] heads = {"quote", "if", "begin", "while", "and", "or"};
        for (int i = 0; i < heads.length; i++) {
            for (int many = 0; many <= 20; many++) {
                if (many >= bounds[i][0] && many <= bounds[i][1]) {
                    right(list(heads[i], many));
                } else {
                    at("@" + list(heads[i], many));
                    at("(print @" + list(heads[i], many) + ")");
                }
            }
        }
        for (int many = 0; many <= 6; many++) {
            if (many == 1) {
                right(list("set! a", many));
                right(list("define a", many));
            } else {
                at("@" + list("set! a", many));
                at("@" + list("define a", many));
            }
            if (many >= 1) {
                right(list("lambda ()", many));
                right(list("let ()", many));
            } else {
                at("@" + list("lambda ()", many));
                at("@" + list("let ()", many));
            }
        }
        for (String head : "set! define lambda let".split(" ")) {
            at("@(" + head + ")");
            at("@(" + head + " 1)");
        }
        // How many there are comes ahead of what they are.
        at("@(if () () () ())");
        at("@(set! 1 () 2)");
        at("@(lambda (if))");
        at("@(let 5)");
    }

    private static void calls() {
        for (int many = 0; many <= 12; many++) {
            if (many <= 8) {
                right(list("f", many));
                right(list("5", many));
                right(list("(f)", many));
                right(list("'a", many));
            } else {
                at("@" + list("f", many));
                at("@" + list("#t", many));
                at("@" + list("()", many));
                at("(and 1 @" + list("(lambda () 1)", many) + ")");
            }
        }
        at("(@())");
        at("(@() @if)");
        at("((f) @())");
        at("((@(if) 1) 2)");
        at("(f @(if) @())");
    }

    private static void lambdas() {
        right("(lambda () 1)");
        right("(lambda (a b c d e f g h) 1)");
        right("(lambda (car print) 1)");
        right("(lambda (a) (lambda (a) a))");
        at("(lambda @5 1)");
        at("(lambda @#t 1)");
        at("(lambda @a 1)");
        at("(lambda @if 1)");
        at("(lambda @'a 1)");
        at("(lambda (@5) 1)");
        at("(lambda (a @#f) 1)");
        at("(lambda (a @(b)) 1)");
        at("(lambda (a @()) 1)");
        at("(lambda (@'a) 1)");
        at("(lambda (a @let) 1)");
        at("(lambda (a b @a) 1)");
        at("(lambda (a b c d e f g h @i) 1)");
        at("(lambda (a b c d e f g h @5) 1)");
        at("(lambda (a b c d e f g h @a) 1)");
        at("(lambda (a b c d e f g @a i) 1)");
        at("(lambda (a @a) @() 1)");
        at("(lambda (a b) @() @if)");
        at("(lambda (a b) 1 @if ())");
    }

    private static void lets() {
        right("(let () 1)");
        right("(let ((a 1) (b 2) (c 3) (d 4) (e 5) (f 6) (g 7) (h 8)) 1 2)");
        right("(let ((a (let ((a 1)) a))) a)");
        at("(let @5 1)");
        at("(let @a 1)");
        at("(let @and 1)");
        at("(let (@'a) 1)");
        at("(let (@a) 1)");
        at("(let ((a 1) @b) 1)");
        at("(let (@5) 1)");
        at("(let (@()) 1)");
        at("(let (@(a)) 1)");
        at("(let (@(a 1 2)) 1)");
        at("(let (@(5 1)) 1)");
        at("(let (@((a) 1)) 1)");
        at("(let (@(() 1)) 1)");
        at("(let (@(#t ())) 1)");
        at("(let ((@if 1)) 1)");
        at("(let ((a @())) 1)");
        at("(let ((a @if)) 1)");
        at("(let ((a 1) (b 2) (@a 3)) 1)");
        at("(let ((a 1) (b 2) (c 3) (d 4) (e 5) (f 6) (g 7) (h 8) (@i 9)) 1)");
        at("(let ((a 1) (b 2) (c 3) (d 4) (e 5) (f 6) (g 7) (h 8) @(i)) 1)");
        at("(let ((a 1) (b 2) (c 3) (d 4) (e 5) (f 6) (g 7) (h 8) @i) 1)");
        at("(let ((a 1) (b 2) (c 3) (d 4) (e 5) (f 6) (g 7) (h @()) (i 9)) 1)");
        at("(let ((a @()) @(5 5)) 1)");
        at("(let ((a @if) (a 2)) 1)");
        at("(let ((a (f @())) (if 2)) 1)");
        at("(let ((a 1) (@let 2)) @())");
        at("(let ((a 1)) @() if)");
        // 'a is a list of two, the first of which is a name: quote, at the '.
        at("(let ((a 1) @'b) 1)");
    }

    private static void assignments() {
        right("(set! a 1)");
        right("(set! car 1)");
        right("(define print 1)");
        at("(set! @5 1)");
        at("(set! @#t 1)");
        at("(set! @(a) 1)");
        at("(set! @() 1)");
        at("(set! @'a 1)");
        at("(set! @if 1)");
        at("(define @define 1)");
        at("(define @5 @())");
        at("(define @(f x) x)");
        at("(set! a @())");
        at("(define a @or)");
        at("(print @(define a 1))");
        at("(define a @(define b 1))");
        at("(begin @(define a 1))");
        at("(lambda () @(define a 1))");
        at("(let () @(define a))");
        at("@(define a)");
        right("(define a 1)(define b 2)");
    }

    private static void quotes() {
        right("'if");
        right("'()");
        right("'(if)");
        right("(quote (define 1 2 3))");
        right("'(lambda (5 5) ())");
        right("'(1 2 3 4 5 6 7 8 9 10 11)");
        right("''()");
        right("(if '() '(let) '(()))");
        at("@(quote)");
        at("@(quote a b)");
        at("'() @()");
        at("(f '(()) @(quote))");
    }

    private static void theFirstFromTheLeft() {
        at("1 (f (g @(if)) (if)) ()");
        at("@(if () () () () ())");
        at("(if (f @()) @() if)");
        at("(and 1 (or 2 (begin 3 (while 4 @()))))");
        at("(f (lambda (a @5) (if)) (if))");
        // A fault of the text comes ahead of all shapes.
        X.fails("() )", 1, 3);
        X.fails("(if) #", 1, 6);
        X.fails("if" + "(".repeat(31), 2, 32);
    }

    private static void nothingIsDoneAheadOfIt() {
        Check x = new Check(200);
        Check.due("run", x.run("(print 1) (define a (cons 1 2)) (if)", 77), 3);
        x.counts(0, 0).counts(6, 0).counts(7, 77);
        x.ends("a", 5);
    }
}
