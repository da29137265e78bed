/** 'Terms', TEXTS: a test for each sentence that names a bound, an empty or full one, or a fault's place. */
public final class TextSentencesTest {
    private static final String LETTERS = "abcdefghijklmnopqrstuvwxyz0123456789!?*+-/<=>";
    private static final String TWENTY = "abcdefghij0123456789";
    /** 1998 data in 1332 bytes. */
    private static final String ALMOST_FULL = "'1".repeat(666);

    public static void main(String[] args) {
        bytes();
        comments();
        truths();
        words();
        numbers();
        names();
        blanks();
        data();
        roomOfOneProgram();
        roomOfAllPrograms();
        roomForNames();
        placesOfSyntax();
        placesOfRoom();
        Check.end();
    }

    private static Check scheme() {
        return new Check(2000);
    }

    private static String spelled(int b) {
        return String.valueOf((char) b);
    }

    private static void bytes() {
        Check.sentence("A TEXT are bytes 10 and 32 .. 126.");
        for (int b = 0; b < 256; b++) {
            if (b == 10 || b >= 32 && b <= 126) {
                scheme().ends(";" + spelled(b), 0);
            } else {
                scheme().fails(";" + spelled(b), 1, 1).fails("1 " + spelled(b), 1, 2).fails("(1" + spelled(b) + ")", 1, 2);
            }
        }
    }

    private static void comments() {
        Check.sentence("A COMMENT goes from ; up to 10 or the end.");
        scheme().takes(";", 9, 0, 9).takes(";\n", 9, 0, 9).takes("; 1 2 (\n3", 9, 0, 8).takes("1;2\n3;4", 9, 0, 7)
                .takes(";;\n;'\n#t;)", 9, 0, 8).takes("1;2 3 4", 9, 0, 8)
                .failsAt(1, ";\n@)").failsAt(1, "(and ;)@").failsAt(1, "';a@").cut(";1\n)", 2, 0, -1).cut(";1\n)", 4, 1, 3);
    }

    private static void truths() {
        Check.sentence("#t and #f, with no letter of a word behind");
        for (char letter : LETTERS.toCharArray()) {
            scheme().failsAt(1, "#t@" + letter).failsAt(1, "(and #f@" + letter + ")").cut("#t" + letter, 2, 0, -1);
        }
        scheme().takes("#t", 9, 0, 8).takes("#f", 9, 0, 8).takes("#t#f#t", 9, 0, 6).takes("#t'a#f(and)#t;", 9, 0, 4)
                .takes("(and #t)", 9, 0, 7).takes("#t\n#f ", 9, 0, 7).failsAt(1, "#f@)").failsAt(1, "#t@.").failsAt(1, "#t@T");
    }

    private static void words() {
        Check.sentence("WORDS: as many as stand together of a .. z 0 .. 9 ! ? * + - / < = > (their LETTERS)");
        for (int b = 33; b < 127; b++) {
            String s = spelled(b);
            if (LETTERS.contains(s)) {
                scheme().writes("(print 'x" + s + "x)", "x" + s + "x\n");
            } else if (b == ';') {
                scheme().ends("'x" + s + "x", 0);
            } else if ("('#".contains(s)) {
                scheme().fails("'x" + s, 1, 3);
            } else {
                scheme().fails("'x" + s + "x", 1, 2).fails(s, 1, 0);
            }
        }
        scheme().writes("(print '(a b))(print '(ab))(print '(a11))(print '(a 11))", "(a b)\n(ab)\n(a11)\n(a 11)\n");
    }

    private static void numbers() {
        Check.sentence("A word of digits, or of one - and then digits alone, is a NUMBER");
        scheme().writes("(print '(5 -5 0 -0 12 -1))", "(5 -5 0 0 12 -1)\n")
                .writes("(print (+ 5 -7)) (print '(- -- --5 -5- -a5 -5a +5))", "-2\n(- -- --5 -5- -a5 -5a +5)\n")
                .writes("(print (eq? '- '-)) (print -) (print (eq? '-5 -5)) (print (eq? '--5 -5))",
                        "#t\n#<procedure>\n#t\n#f\n")
                .ends("-5-", 5).ends("+5", 5);
        Check.sentence("-2147483648 .. 2147483647");
        scheme().writes("(print -2147483648) (print 2147483647) (print -2147483647) (print 2147483646)",
                        "-2147483648\n2147483647\n-2147483647\n2147483646\n")
                .failsAt(1, "@2147483648").failsAt(1, "(and @-2147483649)").failsAt(1, "@4294967296").failsAt(1, "@4294967297")
                .failsAt(1, "@-4294967296").failsAt(1, "@9223372036854775808").failsAt(1, "@18446744073709551616")
                .failsAt(1, "@18446744073709551617").failsAt(1, "@-18446744073709551615").failsAt(1, "@21474836470");
        Check.sentence("0s ahead may be");
        String zeros = "0".repeat(900);
        scheme().writes("(print 00) (print 01) (print -00) (print -007) (print 0002147483647) (print -0002147483648)",
                        "0\n1\n0\n-7\n2147483647\n-2147483648\n")
                .writes("(print " + zeros + ") (print " + zeros + "21) (print -" + zeros + "1)", "0\n21\n-1\n")
                .failsAt(1, "@0002147483648").failsAt(1, "@-" + zeros + "2147483649");
        Check.sentence("a greater one is none, and no name");
        scheme().failsAt(1, "'@2147483648").failsAt(1, "'(a @-2147483649 b)").failsAt(1, "'@" + "9".repeat(20))
                .failsAt(1, "'@-" + "9".repeat(19)).failsAt(1, "(define @99999999999 1)").failsAt(1, "@" + "1".repeat(2999));
    }

    private static void names() {
        Check.sentence("another one a NAME of at most 20 letters");
        scheme().writes("(define " + TWENTY + " 7) (print " + TWENTY + ") (print '" + TWENTY + ")", "7\n" + TWENTY + "\n")
                .failsAt(1, "@" + TWENTY + "x").failsAt(1, "'(a @" + TWENTY + "- b)").failsAt(1, "@" + "-".repeat(21))
                .failsAt(1, "@" + "z".repeat(2000)).ends("'" + "-".repeat(20), 0).ends("'-" + "1".repeat(18) + "a", 0)
                .failsAt(1, "'@-" + "1".repeat(19) + "a").cut("'" + TWENTY + "x", 21, 0, -1)
                .writes("(print (eq? '" + TWENTY + " '" + TWENTY.substring(0, 19) + "))", "#f\n")
                .writes("(print (eq? '" + TWENTY + " '" + TWENTY.substring(0, 19) + "8))", "#f\n")
                .writes("(define z 1) (define zz 2) (print z)", "1\n");
        Check.sentence("which does not begin with a digit");
        for (char digit = '0'; digit <= '9'; digit++) {
            scheme().failsAt(1, "'@" + digit + "a").failsAt(1, "@" + digit + "-").failsAt(1, "(and @" + digit + digit + "x1)")
                    .ends("'a" + digit, 0).ends("'-a" + digit, 0).ends("'" + "!" + digit, 0);
        }
    }

    private static void blanks() {
        Check.sentence("Between tokens there may be 10, 32 and comments.");
        scheme().writes(" \n(\nprint ; a\n;b\n  '\n ;c\n a\n ) \n;", "a\n")
                .writes("(print'(1(2)a'b#t#f))", "(1 (2) a (quote b) #t #f)\n")
                .takes("", 9, 0, 9).takes(" ", 9, 0, 9).takes("\n", 9, 0, 9).takes(" \n \n", 9, 0, 9)
                .failsAt(1, "#@ t").failsAt(1, "1@\t2").failsAt(1, "1@\r2");
    }

    private static void data() {
        Check.sentence("a LIST: ( data ), with any number of data");
        scheme().writes("(print '()) (print '(1)) (print '( 1 2 )) (print '(() (()) ((1))))", "()\n(1)\n(1 2)\n(() (()) ((1)))\n")
                .isRight("'(" + "1 ".repeat(1480) + ")").failsAt(1, "(@").failsAt(1, "((1)@").failsAt(1, "@)")
                .failsAt(1, "(and)@)");
        Check.sentence("' datum, which is the list (quote datum)");
        scheme().writes("(print 'a) (print ''a) (print '''a) (print '(quote a)) (print (car ''a)) (print (cdr ''(1)))",
                        "a\n(quote a)\n(quote (quote a))\n(quote a)\nquote\n((1))\n")
                .writes("(print '()) (print ''()) (print '#t) (print '-5) (print '(1 '2))",
                "()\n(quote ())\n#t\n-5\n(1 (quote 2))\n")
                .failsAt(1, "'@").failsAt(1, "''  @").failsAt(1, "('@)").failsAt(1, "'@)");
        Check.sentence("A PROGRAM are data.");
        scheme().takes("", 9, 0, 9).takes("1", 9, 0, 8).takes("1 2 3", 9, 0, 6).takes("", 0, 0, 0);
    }

    private static void roomOfOneProgram() {
        Check.sentence("It has ROOM for 2000 data (a list is one, at its bracket, and then each datum in it");
        scheme().isRight(ALMOST_FULL + " 1 1").failsAt(2, ALMOST_FULL + " 1 1 @1").failsAt(2, ALMOST_FULL + " 1 1 @#f")
                .failsAt(2, ALMOST_FULL + " 1 1 @x").failsAt(2, ALMOST_FULL + " 1 1@()");
        scheme().failsAt(2, ALMOST_FULL + "(1 @1)").failsAt(2, ALMOST_FULL + "((@(").isRight(ALMOST_FULL + "(1)")
                .isRight(ALMOST_FULL + " 1 1;1 1\n ");
        String part = "'1".repeat(600);
        scheme().isRight(part + "(and" + " 1".repeat(198) + ")").failsAt(2, part + "(and" + " 1".repeat(198) + " @1)");
        scheme().isRight("'(" + part + " 1".repeat(197) + ")").failsAt(2, "'(" + part + " 1".repeat(197) + " @1)");
        scheme().isRight("'(" + part + "()".repeat(197) + ")").failsAt(2, "'(" + part + "()".repeat(197) + "@())");
        // Each program has this room anew.
        scheme().isRight(ALMOST_FULL + " 1 1").isRight(ALMOST_FULL + " 1 1");
        Check.sentence("' datum is three: at the ' list and quote, then the datum)");
        scheme().isRight("'1".repeat(666)).failsAt(2, "'1".repeat(666) + "'@1").failsAt(2, ALMOST_FULL + " 1@'1")
                .failsAt(2, ALMOST_FULL + " 1 1@'1").failsAt(2, ALMOST_FULL + "'@'").failsAt(2, ALMOST_FULL + "'@(")
                .failsAt(2, ALMOST_FULL + "'@a");
        Check.sentence("lists 30 deep (also those of ')");
        String open = "(and".repeat(29);
        String close = ")".repeat(29);
        scheme().ends("'" + "(".repeat(29) + "1 2" + ")".repeat(29), 0).ends("'".repeat(30) + "1", 0)
                .ends("(and '" + "(".repeat(28) + "x" + ")".repeat(28) + ")", 0);
        scheme().isRight(open + "(and)" + close).isRight(open + "'1" + close).isRight("'".repeat(30) + "1")
                .failsAt(2, open + "(and@(and))" + close).failsAt(2, open + "(and @'1)" + close)
                .failsAt(2, open + "'@(1)" + close)
                .failsAt(2, "'".repeat(30) + "@'1").failsAt(2, "'".repeat(30) + "@()").failsAt(2, "(".repeat(30) + "@(")
                .failsAt(2, "('".repeat(15) + "@(").isRight("'" + "(".repeat(29) + ")".repeat(29))
                // Those that are closed count no more.
                .isRight(("'".repeat(30) + "1 ").repeat(32)).isRight("'(" + "()".repeat(100) + "(())".repeat(100) + ")");
    }

    private static void roomOfAllPrograms() {
        Check.sentence("all programs without a fault 1, 2 or 3 together, with the one that is read, for 20000 data");
        // 2000 data in 1020 bytes, so that as many as can be come in 512 calls: 19647 have room.
        String full = ("'".repeat(30) + "1").repeat(32) + "'".repeat(23) + "1 1 ";
        Check x = new Check(20000);
        for (int i = 0; i < 9; i++) {
            Check.due("2000 data", x.run(full, 0), 4);
        }
        x.isRight(("'".repeat(30) + "1").repeat(27));
        // No 512 calls bring 20000.
        Check y = new Check(20000).beyondThePromise();
        for (int i = 0; i < 9; i++) {
            y.isRight(full);
        }
        // Those with such a fault count for nothing, those with another one do.
        y.failsAt(1, full + "@)").failsAt(2, full + "@1").failsAt(3, "@if" + full.substring(2));
        y.ends("(car 1)", 9).ends("unknown", 5).ends("", 0);
        // 18004 are there, and there is room for 1996.
        String part = "'1".repeat(665);
        y.failsAt(2, part + " 1 @1").failsAt(2, part + " 1@'1").failsAt(2, part + " 1@()").isRight(part + " 1");
        y.failsAt(2, "@1").failsAt(2, "@()").failsAt(2, "@'1").failsAt(2, "@a").failsAt(2, "@#t").failsAt(1, "@)")
                .failsAt(1, "@1a");
        y.takes("", 9, 0, 9).takes("; 1", 9, 0, 9);
    }

    private static String name(int i) {
        return "n" + i;
    }

    private static String names(int from, int to) {
        StringBuilder all = new StringBuilder();
        for (int i = from; i < to; i++) {
            all.append(name(i)).append(' ');
        }
        return all.toString();
    }

    private static void roomForNames() {
        Check.sentence("all programs for 400 names besides those of primitives and special ones");
        Check x = scheme();
        x.isRight("'(" + names(0, 200) + ")").isRight("'(" + names(200, 399) + ")").isRight("'last");
        x.failsAt(2, "'@more").failsAt(2, "'(n0 last n398 @n399)").failsAt(2, "(print @more)");
        x.isRight("'(" + names(0, 200) + " last)");
        x.isRight("'(+ - * quotient remainder = < eq? not null? pair? cons car cdr set-car! set-cdr! vector vector-get"
                + " vector-put! vector-size weak weak-get ephemeron ephemeron-key ephemeron-value table table-put! table-get"
                + " table-size finalize! hash gc cells print quote if set! define lambda let begin while and or)");
        Check.sentence("names that were read stay known, also those ahead of a fault");
        Check y = scheme();
        y.failsAt(1, "'(" + names(0, 100) + "@");
        y.failsAt(2, "(k".repeat(30) + "@(");
        y.failsAt(3, "@if '(" + names(100, 200) + ")");
        y.isRight("'(" + names(200, 398) + ")").isRight("'z");
        y.failsAt(2, "'@zz");
        y.isRight("'(" + names(0, 200) + " k z)");
        Check.sentence("not the one at which there is no room");
        Check z = scheme();
        z.isRight("'(" + names(0, 399) + ")");
        // No room for one more datum: the name is not known, and so another one is the last that is.
        z.failsAt(2, ALMOST_FULL + " 1 1 @first").isRight("'second").failsAt(2, "'@first");
        z.failsAt(2, "'@third").failsAt(2, "'@third").isRight("'second");
        // A word that is no name is never known.
        Check w = scheme();
        w.isRight("'(" + names(0, 399) + ")").failsAt(1, "@" + TWENTY + "x").failsAt(1, "@1x").isRight("'last");
    }

    private static void placesOfSyntax() {
        Check.sentence("FAULTS of a text, the first from the left");
        scheme().failsAt(1, "@) A").failsAt(1, "1 @A )").failsAt(1, "@1a" + "(".repeat(31)).failsAt(2, "(".repeat(30) + "@( A")
                .failsAt(2, ALMOST_FULL + " 1 1 @1 A").failsAt(1, "@A" + ALMOST_FULL + " 1 1 1").failsAt(1, "(if) ()@)");
        Check.sentence("1 SYNTAX: at the first byte that can't stand there, or the text's end");
        scheme().failsAt(1, "@.").failsAt(1, "1 @\"").failsAt(1, "a@B").failsAt(1, "12@B").failsAt(1, "'@)").failsAt(1, "@)")
                .failsAt(1, "(@").failsAt(1, "'@").failsAt(1, "#@").failsAt(1, "(1 2@").failsAt(1, "(1 2 ; )@")
                .failsAt(1, "(and '@")
                .cut("(and)", 4, 1, 4).cut("'a", 1, 1, 1).cut("#t", 1, 1, 1).cut("#f", 1, 1, 1).cut("(a)  ", 1, 1, 1);
        // The end of the longest text there is.
        for (String last : new String[] {"#", "'", "("}) {
            scheme().failsAt(1, " ".repeat(2999) + last + "@");
        }
        for (String last : new String[] {"1", "-", "#t", "a", ";", "()", "'a", ";x", "\n"}) {
            Check x = scheme();
            x.run(" ".repeat(3000 - last.length()) + last);
            Check.due("the end " + last, x.scheme().place(), last.equals("()") ? 2998 : -1);
        }
        Check.sentence("a word that is neither: at its first byte");
        scheme().failsAt(1, "@1a").failsAt(1, "(and @123456789012345)").failsAt(1, "'(x @" + TWENTY + TWENTY + ")")
                .failsAt(1, "@1aB").failsAt(1, "(@0-").failsAt(1, "(1 @9=)");
        Check.sentence("behind # the byte that is no t or f, behind these a letter");
        for (int b = 33; b < 127; b++) {
            String s = spelled(b);
            if (b != 't' && b != 'f') {
                scheme().fails("(#" + s, 1, 2);
            }
            if (LETTERS.contains(s)) {
                scheme().fails("(#t" + s, 1, 3).fails("(#f" + s, 1, 3);
            }
        }
        scheme().failsAt(1, "#@ t").failsAt(1, "#@\nt").failsAt(1, "#@");
    }

    private static void placesOfRoom() {
        Check.sentence("2 ROOM: at the datum that is too much, or the list that is too deep");
        scheme().failsAt(2, ALMOST_FULL + " 1 1 ; x\n  @17").failsAt(2, ALMOST_FULL + " 1 1 @#t")
                .failsAt(2, ALMOST_FULL + " 1 1 @abc ")
                .failsAt(2, ALMOST_FULL + " 1 1 @( )").failsAt(2, ALMOST_FULL + "(@'").failsAt(2, "(".repeat(30) + " \n @( )")
                .failsAt(2, "(".repeat(30) + " @' a").failsAt(2, "'(a (b)) " + "(".repeat(30) + "@(");
        Check.sentence("behind 1 at one byte");
        scheme().failsAt(1, ALMOST_FULL + " 1 1 @1a").failsAt(1, ALMOST_FULL + " 1 1 @2147483648")
                .failsAt(1, ALMOST_FULL + " 1 1 @" + TWENTY + "x")
                .failsAt(1, ALMOST_FULL + " 1 1 @A").failsAt(1, ALMOST_FULL + " 1 1 @)").failsAt(1, "(".repeat(30) + "@A");
        Check x = scheme();
        x.isRight("'(" + names(0, 400) + ")").failsAt(1, "'@" + TWENTY + "x").failsAt(1, "'@1x").failsAt(2, "'@x");
    }
}
