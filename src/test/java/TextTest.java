/** Promises 3 and 4: tokens, data, and the faults 1 SYNTAX and 2 ROOM with their places. */
public final class TextTest {
    private static final String LETTERS = "abcdefghijklmnopqrstuvwxyz0123456789!?*+-/<=>";

    public static void main(String[] args) {
        bytesThatMayStand();
        words();
        numbers();
        truths();
        lists();
        comments();
        dataOfOneProgram();
        depth();
        dataOfAllPrograms();
        names();
        namesOfRefusedTexts();
        syntaxComesAheadOfRoom();
        Check.end();
    }

    private static Check scheme() {
        return new Check(20000);
    }

    private static void bytesThatMayStand() {
        for (int b = 0; b < 256; b++) {
            String s = String.valueOf((char) b);
            boolean letter = LETTERS.contains(s);
            boolean blank = b == 10 || b == 32;
            Check x = scheme();
            if (letter) {
                x.ends("'a" + s, 0);
            } else if (blank || b == ';') {
                x.ends("'a" + s, 0);
                x.fails("'a" + s + "\n)", 1, 4);
            } else if (b == '\'' || b == '(' || b == '#') {
                x.fails("'a" + s, 1, 3);
            } else {
                x.fails("'a" + s, 1, 2);
                x.fails(s, 1, 0);
                x.fails("1 " + s + " 1", 1, 2);
                x.fails("(1" + s + s + ")", 1, b == ')' ? 3 : 2);
            }
            if (b == 10 || b >= 32 && b <= 126) {
                x.writes("; " + s + "\n(print 1)", "1\n");
            } else {
                x.fails("1 ; " + s + "\n(print 1)", 1, 4);
            }
        }
    }

    private static void words() {
        String twenty = "abcdefghijklmnopqrst";
        scheme().writes("(print '" + twenty + ")", twenty + "\n")
                .fails(" '" + twenty + "u", 1, 2)
                .fails("(a b " + twenty + twenty + " c)", 1, 5)
                .writes("(print '(- -- -a --1 -1a +1 a1 1) ) (print '!?*+-/<=>)", "(- -- -a --1 -1a +1 a1 1)\n!?*+-/<=>\n")
                .fails("(1a)", 1, 1)
                .fails("12a", 1, 0)
                .fails("1-", 1, 0)
                .fails("1+1", 1, 0)
                .fails("0x", 1, 0)
                .writes("(print'a)(print'(a#t(b)'c#f))", "a\n(a #t (b) (quote c) #f)\n")
                .fails("aB", 1, 1)
                .fails("12B", 1, 2)
                .fails("12aB", 1, 0)
                .fails("a.b", 1, 1)
                .fails("'(a . b)", 1, 4);
    }

    private static void numbers() {
        String zeros = "0".repeat(60);
        scheme().writes("(print '(2147483647 -2147483648 0 -0 007 -007))", "(2147483647 -2147483648 0 0 7 -7)\n")
                .writes("(print " + zeros + "12) (print -" + zeros + "2147483648)", "12\n-2147483648\n")
                .fails(" 2147483648", 1, 1)
                .fails("(- -2147483649)", 1, 3)
                .fails("99999999999999999999999999999999", 1, 0)
                .fails("-18446744073709551617", 1, 0)
                .fails("4294967296", 1, 0)
                .fails("21474836470", 1, 0)
                .fails("-21474836480", 1, 0)
                .fails("-2147483648000", 1, 0)
                .fails("1" + zeros, 1, 0);
    }

    private static void truths() {
        scheme().writes("(print #t)(print #f)(print '(#t#f))", "#t\n#f\n(#t #f)\n")
                .fails("#", 1, 1)
                .fails("(#", 1, 2)
                .fails("#x", 1, 1)
                .fails("#T", 1, 1)
                .fails("# t", 1, 1)
                .fails("##t", 1, 1)
                .fails("#ta", 1, 2)
                .fails("#t1", 1, 2)
                .fails("#f-", 1, 2)
                .fails("#tt", 1, 2)
                .fails("#f.", 1, 2)
                .ends("#t;\n#f\n", 0)
                .ends("#t'a(and)#t", 0);
    }

    private static void lists() {
        scheme().fails(")", 1, 0)
                .fails("1 )", 1, 2)
                .fails("(and))", 1, 5)
                .fails("(", 1, 1)
                .fails("(print 1", 1, 8)
                .fails("((1) (2)", 1, 8)
                .fails("(and ; )", 1, 8)
                .fails("'", 1, 1)
                .fails("' ", 1, 2)
                .fails("'''", 1, 3)
                .fails("(')", 1, 2)
                .fails("(and '  )", 1, 8)
                .writes("(print ' \n; c\n 'a)", "(quote a)\n")
                .writes("(print ''(a))(print (quote (quote a)))(print '())", "(quote (a))\n(quote a)\n()\n")
                .writes("(print '(() (()) (1 (2) 3)))", "(() (()) (1 (2) 3))\n")
                .ends("", 0)
                .ends(" \n ", 0);
    }

    private static void comments() {
        scheme().writes("(print ;one (two)\n 1); 2", "1\n")
                .writes(";\n;;\n(print;\n1;)\n)", "1\n")
                .ends("; no end", 0)
                .fails(";\n;\n)", 1, 4)
                .fails("a;\u007f", 1, 2)
                .fails("a; \t", 1, 3)
                .fails("; \u00e9", 1, 2);
    }

    private static void dataOfOneProgram() {
        // A list and 1999 numbers are 2000 data.
        Check x = scheme();
        x.feed("(and" + " 1".repeat(1495));
        Check.due("1497 data", x.scheme().run(2994, 0) + " at " + x.scheme().place(), "1 at 2994");
        String ticks = "'1".repeat(666);
        x.ends(ticks + " 1 1", 0);
        x.fails(ticks + " 1 1 1", 2, ticks.length() + 5);
        x.fails(ticks + " 1 1()", 2, ticks.length() + 4);
        x.fails(ticks + " 1 1 #t", 2, ticks.length() + 5);
        x.fails(ticks + " 1 1 'a", 2, ticks.length() + 5);
        x.fails(ticks + " 1 1 'z", 2, ticks.length() + 5);
        x.fails(ticks + " 1 '1", 2, ticks.length() + 3);
        x.fails(ticks + " '1", 2, ticks.length() + 2);
        x.fails(ticks + "''", 2, ticks.length() + 1);
        x.fails(ticks + "(1)(", 2, ticks.length() + 3);
        x.ends(ticks + " 1 1 ;1\n", 0);
        x.fails(ticks + " 1 1 )", 1, ticks.length() + 5);
    }

    private static void depth() {
        Check x = scheme();
        for (int deep = 28; deep <= 32; deep++) {
            String open = "(".repeat(deep - 1);
            String close = ")".repeat(deep - 1);
            String ticks = "'".repeat(deep);
            if (deep <= 30) {
                x.ends("'" + open + close, 0);
                x.ends(ticks + "1", 0);
                x.ends(ticks + "1 " + ticks + "1 '" + open + close, 0);
            } else {
                x.fails("'" + open + close, 2, 30);
                x.fails(ticks + "1", 2, 30);
                x.fails(" '((1) (2))" + ticks + "1", 2, 41);
                x.fails("(and".repeat(30) + "'1", 2, 120);
                x.fails("(and".repeat(30) + "(", 2, 120);
                x.fails("(and".repeat(30) + "1", 1, 121);
            }
        }
        x.ends("(and ".repeat(30) + "1" + ")".repeat(30), 0);
    }

    private static void dataOfAllPrograms() {
        // 61 data each, in 31 bytes: 2000 are 32 of these and 48 more.
        String chains = ("'".repeat(30) + "1").repeat(32) + " 1".repeat(48);
        Check x = scheme();
        for (int i = 0; i < 9; i++) {
            Check.due("2000 data, no fuel", x.run(chains, 0), 4);
        }
        // What is refused counts for nothing.
        for (int i = 0; i < 3; i++) {
            x.fails(chains + " 1", 2, chains.length() + 1);
            x.fails(chains.substring(2) + ")", 1, chains.length() - 2);
            x.fails(chains.substring(0, chains.length() - 1) + "if", 3, chains.length() - 1);
        }
        x.ends("1 2", 0);
        x.fails(chains, 2, chains.length() - 3);
        Check.due("1998 data", x.run(chains.substring(0, chains.length() - 4), 0), 4);
        x.fails("1", 2, 0);
        x.fails(" '", 2, 1);
        x.fails("()", 2, 0);
        x.fails("a", 2, 0);
        x.fails(")", 1, 0);
        x.ends("", 0);
        x.ends("; none", 0);
    }

    private static String name(int i) {
        return "z" + (char) ('a' + i / 26) + (char) ('a' + i % 26);
    }

    private static String names(int from, int to) {
        StringBuilder all = new StringBuilder();
        for (int i = from; i < to; i++) {
            all.append(name(i)).append(' ');
        }
        return all.toString();
    }

    private static void names() {
        Check x = scheme();
        x.ends("'(" + names(0, 399) + ")", 0);
        x.fails("'(car if aa ab)", 2, 12);
        x.fails("ab", 2, 0);
        x.fails("'(" + name(0) + " aa vector-put! or " + name(398) + " b)", 2, 28);
        x.writes("(print '(aa " + name(7) + "))", "(aa " + name(7) + ")\n");
        x.fails("ab a.", 2, 0);
        x.fails("123456789012 ab", 1, 0);
    }

    private static void namesOfRefusedTexts() {
        Check x = scheme();
        x.fails(names(0, 200) + ")", 1, 800);
        x.fails("if " + names(200, 300), 3, 0);
        x.fails("'1".repeat(660) + " " + names(300, 321), 2, 1321 + 80);
        // 320 are known, as the one without room is not: 80 more have room.
        x.ends("'(" + names(321, 401) + ")", 0);
        x.fails(name(320), 2, 0);
        x.fails(name(401), 2, 0);
        x.ends("'(" + names(0, 320) + ")", 0);
    }

    private static void syntaxComesAheadOfRoom() {
        Check x = scheme();
        String ticks = "'1".repeat(666) + " 1 1 ";
        x.fails(ticks + "1a", 1, ticks.length());
        x.fails(ticks + "2147483648", 1, ticks.length());
        x.fails(ticks + "abcdefghijklmnopqrstu", 1, ticks.length());
        x.fails(ticks + "A", 1, ticks.length());
        x.fails(ticks + "1 A", 2, ticks.length());
        x.fails("A " + ticks, 1, 0);
        x.fails("1a".repeat(1) + "(".repeat(40), 1, 0);
        x.fails("(".repeat(40) + "1a", 2, 30);
    }
}
