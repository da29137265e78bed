/** 'Terms', EXPRESSIONS: a test for each sentence that names a bound, an empty one, or the place of a fault 3. */
public final class ExpressionSentencesTest {
    private static final String[] SPECIALS = {
        "quote", "if", "set!", "define", "lambda", "let", "begin", "while", "and", "or"
    };
    private static final String EIGHT = "a b c d e f g h";
    private static final String EIGHT_BOUND = "(a 1) (b 2) (c 3) (d 4) (e 5) (f 6) (g 7) (h 8)";

    public static void main(String[] args) {
        specialNames();
        counts();
        boundNames();
        quoted();
        definitions();
        theOrderOfLooking();
        listsOfNoForm();
        whatShouldBeAnother();
        namesThatMayNotBe();
        expressionsThatAreNone();
        lambdasAndLets();
        Check.end();
    }

    private static Check scheme() {
        return new Check(2000);
    }

    private static void specialNames() {
        Check.sentence("SPECIAL names: quote if set! define lambda let begin while and or.");
        for (String special : SPECIALS) {
            scheme().failsAt(3, "@" + special).failsAt(3, "(car @" + special + ")").failsAt(3, "(set! @" + special + " 1)")
                    .isRight(special + "x").isRight(special.substring(1)).isRight("'" + special);
        }
        // The names of primitives are like all others.
        scheme().isRight("(lambda (car) car)").isRight("(let ((print 1)) print)").isRight("(set! gc 1)").isRight("else");
    }

    /** (head, then so many times the operand) is right if least <= many <= most, and else faulty at its bracket. */
    private static void takes(String head, String operand, int least, int most) {
        for (int many = 0; many <= 12; many++) {
            String list = "(" + head + (" " + operand).repeat(many) + ")";
            if (many >= least && many <= most) {
                scheme().isRight(list).isRight("(print " + list + ")");
            } else {
                scheme().failsAt(3, "@" + list).failsAt(3, "(print @" + list + ")").failsAt(3, "1 @" + list + " if");
            }
        }
    }

    private static void counts() {
        Check.sentence("(quote datum)");
        takes("quote", "1", 1, 1);
        Check.sentence("(if e e) (if e e e)");
        takes("if", "1", 2, 3);
        Check.sentence("(set! name e)");
        takes("set! a", "1", 1, 1);
        scheme().failsAt(3, "@(set!)").failsAt(3, "@(set! 1)");
        Check.sentence("(lambda (name ..) e e ..)");
        takes("lambda ()", "1", 1, 99);
        takes("lambda (a b)", "1", 1, 99);
        scheme().failsAt(3, "@(lambda)").failsAt(3, "@(lambda ())").failsAt(3, "@(lambda 5)");
        Check.sentence("(let ((name e) ..) e e ..)");
        takes("let ()", "1", 1, 99);
        takes("let ((a 1) (b 2))", "1", 1, 99);
        scheme().failsAt(3, "@(let)").failsAt(3, "@(let ())").failsAt(3, "@(let 5)");
        Check.sentence("(begin e e ..)");
        takes("begin", "1", 1, 99);
        Check.sentence("(while e e ..)");
        takes("while", "1", 1, 99);
        Check.sentence("(and e ..) (or e ..)");
        takes("and", "1", 0, 99);
        takes("or", "1", 0, 99);
        Check.sentence("(e e ..): a CALL, with at most 8 e behind the first, which is no special name.");
        for (String head : new String[] {"f", "5", "#f", "'a", "(f)", "(lambda (x) x)", "car"}) {
            takes(head, "1", 0, 8);
        }
        Check.sentence("(x .. : any number of x, or none.)");
        for (String head : new String[] {"and", "or", "begin", "while", "lambda ()", "let ()"}) {
            scheme().isRight("(" + head + " 1".repeat(1000) + ")");
        }
        scheme().isRight("(and)").isRight("(or)").isRight("(f)").isRight("(lambda () 1)").isRight("(let () 1)");
    }

    private static void boundNames() {
        Check.sentence("Names of a lambda or let: at most 8");
        scheme().isRight("(lambda (" + EIGHT + ") 1)").failsAt(3, "(lambda (" + EIGHT + " @i) 1)")
                .failsAt(3, "(lambda (" + EIGHT + " @i j) 1)").isRight("(let (" + EIGHT_BOUND + ") 1)")
                .failsAt(3, "(let (" + EIGHT_BOUND + " (@i 9)) 1)").failsAt(3, "(let (" + EIGHT_BOUND + " (@i 9) (j 10)) 1)")
                .isRight("(lambda (" + EIGHT + ") (lambda (i) (let ((j 1) (k 2)) 1)))");
        Check.sentence("none twice");
        scheme().failsAt(3, "(lambda (a @a) 1)").failsAt(3, "(lambda (a b c d e f g @a) 1)")
                .failsAt(3, "(lambda (a b c d e f g @g) 1)")
                .failsAt(3, "(let ((a 1) (@a 2)) 1)").failsAt(3, "(let ((a 1) (b 2) (c 3) (@b 4)) 1)")
                // Others around and inside may have them.
                .isRight("(lambda (a) (lambda (a) a))").isRight("(let ((a 1)) (let ((a 2)) a))")
                .isRight("(let ((a (let ((a 1)) a)) (b (lambda (a) a))) a)").isRight("(lambda (aa a ab b) 1)");
        Check.sentence("none special");
        for (String special : SPECIALS) {
            scheme().failsAt(3, "(lambda (@" + special + ") 1)").failsAt(3, "(lambda (a @" + special + " b) 1)")
                    .failsAt(3, "(let ((@" + special + " 1)) 1)").failsAt(3, "(let ((a 1) (@" + special + " 2)) 1)");
        }
    }

    private static void quoted() {
        Check.sentence("What is quoted is not looked at.");
        scheme().isRight("'()").isRight("'if").isRight("'(if)").isRight("'(quote)").isRight("'(define 5 5 5)").isRight("''()")
                .isRight("'(lambda (a a) ())").isRight("(quote (let 5))").isRight("'(1 2 3 4 5 6 7 8 9 10)")
                .isRight("(f '() '(()))")
                .failsAt(3, "'() @()").failsAt(3, "(f '(if) @(if))").failsAt(3, "(if '() @())");
    }

    private static void definitions() {
        Check.sentence("A program's data are expressions, or (define name e).");
        takesAtTop("define a", 1);
        scheme().failsAt(3, "@(define)").failsAt(3, "@(define 1)").failsAt(3, "@(define a)")
                .isRight("(define a 1) a (define b a)")
                .failsAt(3, "(define @5 1)").failsAt(3, "(define @(f) 1)").failsAt(3, "(define @() 1)")
                .failsAt(3, "(define @#t 1)");
        for (String special : SPECIALS) {
            scheme().failsAt(3, "(define @" + special + " 1)").failsAt(3, "(define a @" + special + ")");
        }
    }

    private static void takesAtTop(String head, int due) {
        for (int many = 0; many <= 5; many++) {
            String list = "(" + head + " 1".repeat(many) + ")";
            if (many == due) {
                scheme().isRight(list);
            } else {
                scheme().failsAt(3, "1 @" + list);
            }
        }
    }

    private static void theOrderOfLooking() {
        Check.sentence("FAULT 3 SHAPE: all data are looked at ahead of all else");
        Check x = scheme();
        x.takes("(print 1) (define p (cons 1 2)) (if)", 500, 3, 500).counts(0, 0).counts(2, 0).counts(6, 0).ends("p", 5);
        x.takes("(while #t) ()", 9, 3, 9).takes("unknown ()", 9, 3, 9).takes("()", 0, 3, 0);
        // But the whole text is read first.
        x.failsAt(1, "() if @)").failsAt(1, "(if) (@").failsAt(2, "() " + "(".repeat(30) + "@(");
        Check.sentence("from the left, each ahead of what is in it");
        x.failsAt(3, "1 @() ()").failsAt(3, "(f (g @()) ()) ()").failsAt(3, "@(if () () () ())").failsAt(3, "@(quote () if)")
                .failsAt(3, "@(f 1 2 3 4 5 6 7 8 ())").failsAt(3, "(f (g 1) (h @if) (if))").failsAt(3, "(@() ())")
                .failsAt(3, "((f @()) ())").failsAt(3, "@(begin) (if)").failsAt(3, "@(lambda (if))")
                .failsAt(3, "@(let ((a ())))");
    }

    private static void listsOfNoForm() {
        Check.sentence("at a list that has none of these forms by its first datum and how many data it has");
        scheme().failsAt(3, "(f @(if 1))").failsAt(3, "(f @(quote))").failsAt(3, "(f @(set! 5))").failsAt(3, "@(define a 1 if)")
                .failsAt(3, "@(f 1 2 3 4 5 6 7 8 9)").failsAt(3, "@(() 1 2 3 4 5 6 7 8 9)").failsAt(3, "@(if 1 if () 1)");
        Check.sentence("(the names in brackets of a lambda or let aside)");
        scheme().failsAt(3, "(lambda (a b c d e f g h @i j) 1)").failsAt(3, "(lambda (@5 1 2 3 4 5 6 7 8 9 10) 1)")
                .failsAt(3, "(let (@() () () () () () () () () ()) 1)").failsAt(3, "@(lambda (5))").failsAt(3, "@(let (5))")
                .isRight("(lambda () 1)").isRight("(let () 1)");
    }

    private static void whatShouldBeAnother() {
        Check.sentence("at a datum that should be a list, a name or a binding");
        for (String atom : new String[] {"5", "#t", "a", "if", "-7"}) {
            scheme().failsAt(3, "(lambda @" + atom + " 1)").failsAt(3, "(let @" + atom + " 1)")
                    .failsAt(3, "(let (@" + atom + ") 1)")
                    .failsAt(3, "(let ((a 1) @" + atom + ") 1)");
        }
        for (String other : new String[] {"5", "#f", "()", "(a)", "'a", "(lambda (x) x)"}) {
            scheme().failsAt(3, "(set! @" + other + " 1)").failsAt(3, "(define @" + other + " 1)")
                    .failsAt(3, "(lambda (@" + other + ") 1)").failsAt(3, "(lambda (a @" + other + " a) 1)");
        }
        // The brackets of ' are brackets: what is in them is (quote a).
        scheme().failsAt(3, "(lambda @'a 1)").failsAt(3, "(let @'a 1)");
        Check.sentence("(a list of two, the first of which is a name: otherwise at its own bracket)");
        for (String list : new String[] {"()", "(a)", "(5)", "(a 1 2)", "(a 1 2 3)", "(5 1)", "(#t 1)", "((a) 1)", "(() 1)",
                "('a 1)", "(5 ())"}) {
            scheme().failsAt(3, "(let (@" + list + ") 1)").failsAt(3, "(let ((x 1) @" + list + " (if 2)) 1)")
                    .failsAt(3, "(let (" + EIGHT_BOUND + " @" + list + ") 1)");
        }
        // A special name is a name, and at fault itself; ' and its quote are at one place.
        scheme().failsAt(3, "(let ((@if 1)) 1)").failsAt(3, "(let (@'a) 1)").failsAt(3, "(let ((a 1) @'5) 1)")
                .isRight("(let ((a 1)) 1)");
    }

    private static void namesThatMayNotBe() {
        Check.sentence("at a name that is special, the ninth, or there already");
        scheme().failsAt(3, "(set! @while 1)").failsAt(3, "(define @or 1)").failsAt(3, "(lambda (a @and b) 1)")
                .failsAt(3, "(let ((a 1) (@let 2)) 1)").failsAt(3, "(lambda (" + EIGHT + " @i) 1)")
                .failsAt(3, "(lambda (" + EIGHT + " @a) 1)").failsAt(3, "(lambda (" + EIGHT + " @if) 1)")
                .failsAt(3, "(let (" + EIGHT_BOUND + " (@i ())) 1)").failsAt(3, "(let (" + EIGHT_BOUND + " (@a 1)) 1)")
                .failsAt(3, "(lambda (a b @a " + "c d e f g h i) 1)").failsAt(3, "(let ((a 1) (@a ())) 1)")
                .isRight("(lambda (" + EIGHT + ") 1)").isRight("(set! a (set! a 1))");
    }

    private static void expressionsThatAreNone() {
        Check.sentence("at an expression that is none (so at (), and a define that is no datum of the program)");
        String[] around = {
            "# 1", "(f #)", "(# f)", "(if # 1)", "(if 1 #)", "(if 1 2 #)", "(set! a #)", "(define a #)", "(lambda () #)",
            "(lambda (a) 1 #)", "(let ((a #)) 1)", "(let ((a 1)) #)", "(let () 1 #)", "(begin #)", "(begin 1 #)", "(while #)",
            "(while 1 #)", "(and #)", "(and 1 #)", "(or #)", "(or 1 #)", "(f 1 2 3 4 5 6 7 #)"
        };
        for (String form : around) {
            scheme().isRight(form.replace("#", "5")).failsAt(3, form.replace("#", "@()")).failsAt(3, form.replace("#", "@(if)"))
                    .failsAt(3, form.replace("#", "(@())"));
            if (!form.equals("# 1")) {
                scheme().failsAt(3, form.replace("#", "@(define a 1)")).failsAt(3, form.replace("#", "@(define a)"));
            }
            if (!form.equals("(# f)")) {
                scheme().failsAt(3, form.replace("#", "@if")).failsAt(3, form.replace("#", "@quote"));
            }
        }
    }

    private static void lambdasAndLets() {
        Check.sentence("Of a lambda all names come ahead of its e");
        scheme().failsAt(3, "(lambda (a b @5) ())").failsAt(3, "(lambda (" + EIGHT + " @i) (if))")
                .failsAt(3, "(lambda (a @a) if)")
                .failsAt(3, "(lambda (a b) @() ())").failsAt(3, "(lambda (a b) 1 (f @()) if)").failsAt(3, "(lambda @5 ())");
        Check.sentence("of a let each binding, name and e, ahead of the next one");
        scheme().failsAt(3, "(let ((a @()) (a 1)) 1)").failsAt(3, "(let ((a @()) 5) 1)").failsAt(3, "(let ((a 1) (@a ()) ()) 1)")
                .failsAt(3, "(let ((a (f @())) (if 1)) ())").failsAt(3, "(let ((@if ()) ()) 1)")
                .failsAt(3, "(let ((a 1) (b 2)) @())")
                .failsAt(3, "(let ((a 1) @()) ())")
                .failsAt(3, "(let ((a 1) (b 2) (c 3) (d 4) (e 5) (f 6) (g 7) (h @if) (i 9)) 1)");
    }
}
