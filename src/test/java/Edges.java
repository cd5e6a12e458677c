/** What the tests of edges share: an object that has been used, all that can be seen of it, calls that it refuses. */
final class Edges {
    static final long NO_SUCH = Check.NO_SUCH;
    static final long ILLEGAL = Check.ILLEGAL;
    static final long NONE = TermRows.NONE;
    static final long HIDDEN = TermRows.HIDDEN;
    static final int[] BAD_ROWS = {-1, 10, 11, Integer.MIN_VALUE, Integer.MAX_VALUE};

    static final int CUT = 0;
    static final int ENDS = 1;
    static final int SPENT = 2;
    static final int STUCK = 3;

    interface Asked {
        long of(TermRows x);
    }

    private Edges() {
    }

    /** Rows of all kinds that stop in all ways, a FAULT at 5, [-3;1,2] said, and 20 bytes on the tape. */
    static TermRows used() {
        TermRows x = new TermRows();
        x.root(0, 0, 2, 1);
        x.fraction(1, -7, 3);
        Check.tell(x, 2, "[1;2,(3,4)]");
        x.single(3, 0, 1, 1, 0, 1);
        x.join(4, 2, 0, 0);
        x.say(1, 60);
        Check.ask(x, 0, "many x");
        Check.feed(x, "[5;6,7]");
        return x;
    }

    /** What can be seen of an object without changing it; some 110 calls. */
    static String state(TermRows x) {
        return "tape " + x.count(1) + " fault " + x.fault() + " " + rowsState(x);
    }

    /** The same, but for the tape and the FAULT. */
    static String rowsState(TermRows x) {
        StringBuilder all = new StringBuilder();
        for (int what = 0; what < 8; what++) {
            all.append(what == 1 ? 0 : x.count(what)).append(' ');
        }
        for (int i = 0; i < 9; i++) {
            all.append(x.said(i)).append(' ');
        }
        for (int row = 0; row < 10; row++) {
            for (int what = 0; what < 7; what++) {
                all.append(x.of(row, what)).append(' ');
            }
            for (int k = 0; k < Math.min(2, x.of(row, 1)); k++) {
                all.append(x.term(row, k)).append(' ');
            }
        }
        return all.toString();
    }

    /** The call answers so and changes nothing: what is on the tape can still be told. */
    static void refused(String what, long want, Asked call) {
        TermRows x = used();
        String before = state(x);
        Check.due(what, want, () -> call.of(x));
        Check.due(what + " changes nothing", before, state(x));
        Check.due(what + " leaves the tape", 3, x.told(9, 7));
        terms(what + " leaves the tape", x, 9, 5, 6, 7);
    }

    static void refusesRows(String what, long want, RowAsked call) {
        for (int row : BAD_ROWS) {
            refused(what + " of row " + row, want, x -> call.of(x, row));
        }
    }

    interface RowAsked {
        long of(TermRows x, int row);
    }

    static long flag(boolean answer) {
        return answer ? 1 : 0;
    }

    static TermRows told(String text) {
        TermRows x = new TermRows();
        Check.due("told " + text, true, Check.tell(x, 0, text) > 0);
        return x;
    }

    static void terms(String what, TermRows x, int row, int... want) {
        Check.due(what + ", how many", want.length, x.of(row, 1));
        for (int k = 0; k < want.length; k++) {
            int at = k;
            Check.due(what + ", term " + k, want[k], () -> x.term(row, at));
        }
    }

    /** The row stops so, with so many TERMS READ. */
    static void stops(String what, TermRows x, int row, int stop, int read) {
        Check.due(what + ", how it stops", stop, x.of(row, 2));
        Check.due(what + ", how many read", read, x.of(row, 3));
    }

    /** 1,2,3 .. as far as many, or the same number again and again. */
    static String rising(int from, int many) {
        StringBuilder text = new StringBuilder();
        for (int i = 0; i < many; i++) {
            text.append(i == 0 ? "" : ",").append(from + i);
        }
        return text.toString();
    }

    static String same(int number, int many) {
        return (number + ",").repeat(many - 1) + number;
    }

    /** Row 3 becomes 5 to the 15 by 2 to the 15: the product of both is 10 to the 15. */
    static TermRows fives() {
        TermRows x = new TermRows();
        Check.tell(x, 0, "[0;1,1,2,1,5,1,2,4,1,1,5,1,3]");
        x.fraction(1, 932, 1);
        x.single(2, 1, 999, 254, 0, 1);
        x.join(3, 0, 2, 0);
        terms("5 to the 15 by 2 to the 15", x, 3, 931322, 1, 1, 2, 1, 5, 1, 2, 4, 1, 1, 5, 1, 3);
        return x;
    }

    /** Rows 0 to 2 become 1000, 10 to the 6, 10 to the 9. */
    static TermRows thousands() {
        TermRows x = new TermRows();
        x.fraction(0, 1000, 1);
        x.join(1, 2, 0, 0);
        x.join(2, 2, 1, 0);
        terms("10 to the 9", x, 2, 1000000000);
        return x;
    }

    /** Row 9 becomes one whose second CONVERGENT is far beyond, but a long would wrap it to less than 10 to the 15. */
    static TermRows wrapping() {
        TermRows x = new TermRows();
        x.fraction(0, 1000, 1);
        x.fraction(1, 9999, 1);
        x.fraction(2, 1845, 1);
        x.join(3, 2, 0, 0);
        x.join(4, 2, 1, 2);
        x.single(5, 4, 0, 1, 1, 0);
        x.single(6, 3, 1, -77, 0, 1);
        x.join(7, 0, 6, 5);
        x.single(8, 7, 0, 1, 1, 0);
        x.join(9, 0, 3, 8);
        terms("great terms", x, 9, 1000000, 999923, 18448155);
        return x;
    }

    /** Row 6 becomes -10 to the 9 and 1 by 8 times 10 to the 8 and 2: the product of both is far beyond. */
    static TermRows greatAndGreat() {
        TermRows x = thousands();
        x.single(3, 1, 200, 0, 0, 1);
        x.single(4, 3, 1, 0, 2, 1);
        x.join(5, 0, 2, 4);
        x.single(6, 5, -2, 1, 0, 2);
        terms("great and great", x, 6, -1000000000, 800000002);
        return x;
    }

    /** Row 1 becomes a row without TERMS, 0 by 0; it ENDS. */
    static TermRows empty() {
        TermRows x = new TermRows();
        x.single(1, 0, 1, 0, 1, 0);
        terms("0 by 0", x, 1);
        stops("0 by 0", x, 1, ENDS, 1);
        return x;
    }
}
