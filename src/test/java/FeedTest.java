/** Promise 2: feed. */
public final class FeedTest {
    public static void main(String[] args) {
        theHighestByteComesFirst();
        onlyTheFirstBytesAreTheProgram();
        theRestIsNotSeen();
        theLastByte();
        threeThousandBytesAreTheMost();
        anyByteIsTaken();
        Check.end();
    }

    private static void theHighestByteComesFirst() {
        WeakScheme x = new WeakScheme(200);
        // "(pri nt ( + 12345 6))" without its blanks, as ints
        boolean fed = x.feed(0x28707269, 0x6E742028, 0x2B203132, 0x33343520, 0x36292920);
        Check.due("feed", fed, true);
        Check.due("bytes", x.count(5), 20);
        Check.due("run", x.run(20, 100), 0);
        Check.due("fetch", x.fetch(), 0x0631323335310A00L);
        Check.due("bytes behind run", x.count(5), 0);
    }

    private static void onlyTheFirstBytesAreTheProgram() {
        Check x = new Check(200);
        x.feed("(print 1) (print 2) (");
        Check.due("bytes", x.count(5), 40);
        Check.due("run", x.scheme().run(9, 100), 0);
        Check.due("output", x.output(), "1\n");
        Check.due("the rest is gone", x.count(5), 0);
        Check.due("and can't be run", x.scheme().run(1, 100), -1);
        x.feed("(print 3)");
        Check.due("cut short", x.scheme().run(8, 100) + " at " + x.scheme().place(), "1 at 8");
        Check.due("gone with a fault, too", x.count(5), 0);
    }

    /** What stands behind the first n bytes is not there for the program. */
    private static void cut(String text, int n, int fault, int place) {
        Check x = new Check(200);
        x.feed(text);
        Check.due(n + " bytes of " + text, x.scheme().run(n, 100) + " at " + x.scheme().place(), fault + " at " + place);
    }

    private static void theRestIsNotSeen() {
        cut("#t", 1, 1, 1);
        cut("#f", 1, 1, 1);
        cut("#tt", 2, 0, -1);
        cut("#fx", 2, 0, -1);
        cut("123a", 3, 0, -1);
        cut("12345678901234", 3, 0, -1);
        cut("car1", 3, 0, -1);
        cut("'abcdefghijklmnopqrstuvwxyz", 21, 0, -1);
        cut("'abcdefghijklmnopqrstuvwxyz", 22, 1, 1);
        cut("-1", 1, 0, -1);
        cut("'1", 1, 1, 1);
        cut("(car)", 4, 1, 4);
        cut("; \t", 2, 0, -1);
        cut("1)", 1, 0, -1);
        cut("(print (+ 1 2))", 0, 0, -1);
    }

    /** The last of 3000 bytes has nothing behind it. */
    private static void theLastByte() {
        for (String last : new String[] {"#", "'", "(", ")", ";", "1", "a", "\n", "-", "\t"}) {
            Check x = new Check(200);
            x.feed(" ".repeat(2999) + last);
            int fault = "1\n;-".contains(last) ? 0 : last.equals("a") ? 5 : 1;
            int place = fault != 1 ? -1 : last.equals(")") || last.equals("\t") ? 2999 : 3000;
            Check.due("at the end " + last, x.scheme().run(3000, 9) + " at " + x.scheme().place(), fault + " at " + place);
        }
        Check x = new Check(200);
        x.feed(" ".repeat(2998) + "#t");
        Check.due("at the end #t", x.scheme().run(3000, 9), 0);
        x.feed(";".repeat(3000));
        Check.due("one comment", x.scheme().run(3000, 9), 0);
    }

    private static void threeThousandBytesAreTheMost() {
        WeakScheme x = new WeakScheme(200);
        for (int i = 1; i <= 150; i++) {
            Check.due("feed " + i, x.feed(0x20202020, 0x20202020, 0x20202020, 0x20202020, 0x20202031), true);
            Check.due("bytes", x.count(5), 20 * i);
        }
        Check.due("one more", x.feed(0, 0, 0, 0, 0), false);
        Check.due("bytes", x.count(5), 3000);
        Check.due("the refused one is not there", x.run(3000, 150), 0);
        Check.due("fuel", x.count(7), 0);
        Check.due("there is space again", x.feed(0, 0, 0, 0, 0), true);
        Check.due("bytes", x.count(5), 20);
    }

    private static void anyByteIsTaken() {
        WeakScheme x = new WeakScheme(200);
        Check.due("feed", x.feed(-1, Integer.MIN_VALUE, Integer.MAX_VALUE, 0x80808080, 0), true);
        Check.due("run", x.run(20, 100), 1);
        Check.due("place", x.place(), 0);
        x.feed(0x20202031, 0x2000FFFF, -1, -1, -1);
        Check.due("run", x.run(5, 100), 0);
        x.feed(0x20202031, 0x20F12020, -1, -1, -1);
        Check.due("run", x.run(8, 100), 1);
        Check.due("place", x.place(), 5);
    }
}
