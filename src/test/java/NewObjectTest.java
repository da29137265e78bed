/** Promise 1: a new object. */
public final class NewObjectTest {
    public static void main(String[] args) {
        int[] cells = {100, 101, 2000, 19999, 20000, 99, 20001, 0, -1, -100, Integer.MIN_VALUE, Integer.MAX_VALUE};
        int[] due = {100, 101, 2000, 19999, 20000, 2000, 2000, 2000, 2000, 2000, 2000, 2000};
        for (int i = 0; i < cells.length; i++) {
            holds(cells[i], due[i]);
        }
        nothingIsInUse();
        Check.end();
    }

    /** Fills the heap with pairs until there is no room for one more. */
    private static void holds(int cells, int due) {
        Check x = new Check(cells);
        x.run("(define l '())");
        int fault = 0;
        for (int i = 0; i < 100 && fault == 0; i++) {
            fault = x.run("(define i 0) (while (< i 1000) (set! l (cons i l)) (set! i (+ i 1)))");
        }
        Check.due("fault with " + cells + " cells", fault, 12);
        Check.due("cells of " + cells, x.count(0), due / 4 * 4);
        Check.due("objects of " + cells, x.count(1), due / 4);
        // The last cells serve as well: a vector of none has 3, and fits only if so many are left.
        Check.due("three more of " + cells, x.run("(vector 0 0)"), due % 4 == 3 ? 0 : 12);
    }

    private static void nothingIsInUse() {
        Check x = new Check(500);
        for (int what = 0; what <= 8; what++) {
            x.counts(what, 0);
        }
        Check.due("place", x.scheme().place(), -1);
        Check.due("fetch", x.scheme().fetch(), 0L);
    }
}
