/** Promise 1: a new object. */
public final class NewObjectTest {
    public static void main(String[] args) {
        int[] cells = {100, 101, 2000, 19999, 20000, 99, 20001, 0, -1, -100, Integer.MIN_VALUE, Integer.MAX_VALUE};
        int[] due = {100, 101, 2000, 19999, 20000, 2000, 2000, 2000, 2000, 2000, 2000, 2000};
        for (int i = 0; i < cells.length; i++) {
            holds(cells[i], due[i]);
        }
        nothingIsInUse();
        Check.end();
    }

    /** Fills the heap to its last cell without a collection; one more cell has no room. */
    private static void holds(int cells, int due) {
        Check x = new Check(cells);
        Check.due(due + " of " + cells, fill(x, due), 0);
        x.counts(0, due).counts(2, 0);
        Check y = new Check(cells);
        Check.due(due + 1 + " of " + cells, fill(y, due + 1), 12);
        y.counts(2, 1);
    }

    /** 50 cells at a time, and then a vector of the rest. */
    private static int fill(Check x, int cells) {
        int times = Math.max(0, (cells - 103 + 49) / 50);
        x.run("(define l '()) (define i 0)");
        x.run("(while (< i " + times + ") (set! l (cons (vector 43 0) l)) (set! i (+ i 1)))");
        x.counts(0, 50 * times);
        return x.run("(define rest (vector " + (cells - 50 * times - 3) + " 0))");
    }

    private static void nothingIsInUse() {
        Check x = new Check(500);
        for (int what = 0; what <= 8; what++) {
            x.counts(what, 0);
        }
        Check.due("place", x.scheme().place(), -1);
        Check.due("fetch", x.scheme().fetch(), 0L);
    }
}
