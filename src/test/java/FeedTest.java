/** Promise 2: feed. */
public final class FeedTest {
    public static void main(String[] args) {
        theHighestByteComesFirst();
        onlyTheFirstBytesAreTheProgram();
        threeThousandBytesAreTheMost();
        anyByteIsTaken();
        Check.end();
    }

    private static void theHighestByteComesFirst() {
        WeakScheme x = new WeakScheme(200);
        // "(pri nt ( + 12345 6))" without its blanks, as ints
        boolean fed = x.feed(0x28707269, 0x6E742028, 0x2B203132, 0x33343520, 0x36292920);
        Check.due("feed", fed, true);
        Check.due("bytes", x.count(5), 20);
        Check.due("run", x.run(20, 100), 0);
        Check.due("fetch", x.fetch(), 0x0631323335310A00L);
        Check.due("bytes behind run", x.count(5), 0);
    }

    private static void onlyTheFirstBytesAreTheProgram() {
        Check x = new Check(200);
        x.feed("(print 1) (print 2) (");
        Check.due("bytes", x.count(5), 40);
        Check.due("run", x.scheme().run(9, 100), 0);
        Check.due("output", x.output(), "1\n");
        Check.due("the rest is gone", x.count(5), 0);
        Check.due("and can't be run", x.scheme().run(1, 100), -1);
        x.feed("(print 3)");
        Check.due("cut short", x.scheme().run(8, 100) + " at " + x.scheme().place(), "1 at 8");
        Check.due("gone with a fault, too", x.count(5), 0);
    }

    private static void threeThousandBytesAreTheMost() {
        WeakScheme x = new WeakScheme(200);
        for (int i = 1; i <= 150; i++) {
            Check.due("feed " + i, x.feed(0x20202020, 0x20202020, 0x20202020, 0x20202020, 0x20202031), true);
            Check.due("bytes", x.count(5), 20 * i);
        }
        Check.due("one more", x.feed(0, 0, 0, 0, 0), false);
        Check.due("bytes", x.count(5), 3000);
        Check.due("the refused one is not there", x.run(3000, 150), 0);
        Check.due("fuel", x.count(7), 0);
        Check.due("there is space again", x.feed(0, 0, 0, 0, 0), true);
        Check.due("bytes", x.count(5), 20);
    }

    private static void anyByteIsTaken() {
        WeakScheme x = new WeakScheme(200);
        Check.due("feed", x.feed(-1, Integer.MIN_VALUE, Integer.MAX_VALUE, 0x80808080, 0), true);
        Check.due("run", x.run(20, 100), 1);
        Check.due("place", x.place(), 0);
        x.feed(0x20202031, 0x2000FFFF, -1, -1, -1);
        Check.due("run", x.run(5, 100), 0);
        x.feed(0x20202031, 0x20F12020, -1, -1, -1);
        Check.due("run", x.run(8, 100), 1);
        Check.due("place", x.place(), 5);
    }
}
