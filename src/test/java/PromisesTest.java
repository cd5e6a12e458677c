/** Each promise of the document, 1 to 27: ordinary inputs, the edges it names, wrong inputs. */
public final class PromisesTest {
    private static final long NO_SUCH = Check.NO_SUCH;
    private static final long ILLEGAL = Check.ILLEGAL;
    private static final int[] BAD_ROWS = {-1, 10, Integer.MIN_VALUE, Integer.MAX_VALUE};

    private PromisesTest() {
    }

    public static void main(String[] args) {
        newObject();
        feed();
        told();
        toldFaults();
        ask();
        askFaults();
        fault();
        fraction();
        root();
        single();
        join();
        undo();
        count();
        of();
        greatestTerm();
        sumWraps();
        justWithin();
        term();
        read();
        spentAndStuck();
        convergent();
        nearest();
        mediant();
        compareAndAlike();
        again();
        tails();
        floor();
        would();
        often();
        left();
        say();
        said();
        Check.end();
    }

    private static void newObject() {
        TermRows x = new TermRows();
        for (int row = 0; row < 10; row++) {
            Edges.terms("new row " + row, x, row, 0);
            Check.due("new row is a fraction", 0, x.of(row, 0));
            Check.due("new row ends", 1, x.of(row, 2));
        }
        Check.due("new acts", 0, x.count(0));
        Check.due("new tape", 0, x.count(1));
        Check.due("new fault", -1, x.fault());
        Check.due("new said", -1, x.said(0));
        Check.due("new undo", -1, x.undo());
    }

    private static void feed() {
        TermRows x = new TermRows();
        for (int i = 1; i <= 10; i++) {
            Check.due("feed " + i, 20 * i, x.feed(0x20202020, 0x20202020, 0x20202020, 0x20202020, 0x20202020));
        }
        Check.due("feed beyond 200", -1, x.feed(1, 2, 3, 4, 5));
        Check.due("tape behind a feed beyond", 200, x.count(1));
        Check.due("told of 200 blanks", -11, x.told(0, 200));
        Check.due("fault is the end", 200, x.fault());
        Check.due("order of bytes", 20, x.feed('[' << 24 | '1' << 16 | ';' << 8 | '2', ',' << 24 | '3' << 16 | ',' << 8 | '4',
            ',' << 24 | '5' << 16 | ',' << 8 | '6', ',' << 24 | '7' << 16 | ',' << 8 | '8', ',' << 24 | '9' << 16 | ']' << 8 | ' '));
        Check.due("told", 9, x.told(0, 20));
        Edges.terms("in the order of bytes", x, 0, 1, 2, 3, 4, 5, 6, 7, 8, 9);
        Check.due("bytes of 128 on", 20, x.feed(-1, -1, -1, -1, -1));
        Check.due("are told as bytes", -11, x.told(0, 1));
        Check.due("at their place", 0, x.fault());
    }

    private static void told() {
        TermRows x = new TermRows();
        Check.due("brackets", 4, Check.tell(x, 0, "[1;2,(3,4)]"));
        Check.due("it is told", 2, x.of(0, 0));
        Check.due("it is cut", 0, x.of(0, 2));
        Check.due("it has 60", 60, x.of(0, 1));
        for (int k = 2; k < 60; k++) {
            Check.due("comes again at " + k, k % 2 == 0 ? 3 : 4, x.term(0, k));
        }
        Check.due("blanks, marks, zeros ahead", 4, Check.tell(x, 1, " [\n- 007 , 1;2\n;0003 ] \n"));
        Edges.terms("blanks, marks, zeros ahead", x, 1, -7, 1, 2, 3);
        Check.due("it ends", 1, x.of(1, 2));
        Check.due("no whole below 0", 1, Check.tell(x, 1, "[-0]"));
        Edges.terms("no whole below 0", x, 1, 0);
        Check.due("edges", 2, Check.tell(x, 1, "[-9999;9999]"));
        Edges.terms("edges", x, 1, -9999, 9999);
        Check.due("edges", 2, Check.tell(x, 1, "[9999,1]"));
        Edges.terms("a last 1 stays", x, 1, 9999, 1);
        toldLength(x, 59, 1, 59);
        toldLength(x, 60, 0, 60);
        toldLength(x, 61, 0, 60);
        toldLength(x, 99, 0, 60);
        Check.due("200 tokens", 99, Check.tell(x, 1, "[-1" + ",1".repeat(98) + "]"));
        Check.due("200 tokens", -11, Check.tell(x, 1, "[-1" + ",1".repeat(98) + ","));
        Check.due("200 tokens", 200, x.fault());
        Check.feed(x, "[1;2,3] and more");
        Check.due("the first bytes alone", 3, x.told(1, 7));
        Check.due("the tape is empty then", 0, x.count(1));
        Check.feed(x, "[1;2,3] and more");
        Check.due("more than it has", ILLEGAL, () -> x.told(1, 21));
        Check.due("n below 0", ILLEGAL, () -> x.told(1, -1));
        Check.due("least n", ILLEGAL, () -> x.told(1, Integer.MIN_VALUE));
        for (int row : BAD_ROWS) {
            Check.due("told of row " + row, ILLEGAL, () -> x.told(row, 7));
        }
        Check.due("nothing changed", 20, x.count(1));
        Check.due("nothing changed", 3, x.told(1, 7));
    }

    private static void toldLength(TermRows x, int many, int stop, int known) {
        StringBuilder text = new StringBuilder("[1");
        for (int i = 1; i < many; i++) {
            text.append(",1");
        }
        Check.due("told " + many, many, Check.tell(x, 1, text.append(']').toString()));
        Check.due("known of " + many, known, x.of(1, 1));
        Check.due("how " + many + " stop", stop, x.of(1, 2));
    }

    private static void toldFault(String text, int code, int place) {
        TermRows x = new TermRows();
        Check.due("told '" + text + "'", -10 - code, Check.tell(x, 3, text));
        Check.due("fault of '" + text + "'", place, x.fault());
        Check.due("tape behind '" + text + "'", 0, x.count(1));
        Check.due("acts behind '" + text + "'", 0, x.count(0));
        Check.due("row behind '" + text + "'", 0, x.of(3, 0));
    }

    private static void toldFaults() {
        toldFault("", 1, 0);
        toldFault("  ", 1, 2);
        toldFault("1", 1, 0);
        toldFault("[", 1, 1);
        toldFault("[]", 1, 1);
        toldFault("[-]", 1, 2);
        toldFault("[--1]", 1, 2);
        toldFault("[1;-1]", 1, 3);
        toldFault("[1;]", 1, 3);
        toldFault("[1;2,]", 1, 5);
        toldFault("[1 2]", 1, 3);
        toldFault("[1;2] ]", 1, 6);
        toldFault("[1;2", 1, 4);
        toldFault("[1;2  ", 1, 6);
        toldFault("[(1)]", 1, 1);
        toldFault("[1(2)]", 1, 2);
        toldFault("[1;()]", 1, 4);
        toldFault("[1;(2]", 1, 5);
        toldFault("[1;(2,(3))]", 1, 6);
        toldFault("[1;(2),3]", 1, 6);
        toldFault("[1;(2)", 1, 6);
        toldFault("[1;2)]", 1, 4);
        toldFault("[1\t]", 1, 2);
        toldFault("[x]", 1, 1);
        toldFault("[1;many]", 1, 3);
        toldFault("[10000]", 2, 1);
        toldFault("[-10000]", 2, 2);
        toldFault("[99999999999999999999999999]", 2, 1);
        toldFault("[18446744073709551617]", 2, 1);
        toldFault("[1;0]", 2, 3);
        toldFault("[1;000 ,x", 2, 3);
        toldFault("[1;10000]", 2, 3);
        toldFault("[1;(0)]", 2, 4);
        toldFault("[1;x,0]", 1, 3);
        toldFault("[10000x", 2, 1);
    }

    private static void asked(TermRows x, int row, String text, long want) {
        Check.due("ask '" + text + "'", want, Check.ask(x, row, text));
        Check.due("fault of '" + text + "'", -1, x.fault());
    }

    private static void ask() {
        TermRows x = new TermRows();
        Check.tell(x, 0, "[-4;2,6,7,2]");
        asked(x, 0, "many term = 2", 2);
        asked(x, 0, "first term=2", 1);
        asked(x, 0, "first term = 9", -1);
        asked(x, 0, "many term < 0", 1);
        asked(x, 0, "many place > 2", 2);
        asked(x, 0, "first ahead = 6", 3);
        asked(x, 0, "many ahead = 0", 1);
        asked(x, 0, "many ahead < 0", 1);
        asked(x, 0, "many sum < 0", 2);
        asked(x, 0, "first sum = 4", 2);
        asked(x, 0, "first behind = 0", 4);
        asked(x, 0, "many behind > place", 2);
        asked(x, 0, "many 0 = 0", 5);
        asked(x, 0, "many 9999 < 0009999", 0);
        asked(x, 0, "many not term = 2", 3);
        asked(x, 0, "many not not term = 2", 2);
        asked(x, 0, "many term = 2 or term = 6 and place = 0", 2);
        asked(x, 0, "many {term = 2 or term = 6} and place = 2", 1);
        asked(x, 0, "many not term = 2 and place > 0", 2);
        asked(x, 0, "many not {term = 2 and place > 1}", 4);
        asked(x, 0, "many\nnot{term=2and place>1}or 1=0", 4);
        asked(x, 0, "many not not not not not not term = 2", 2);
        asked(x, 0, "many {{{{{{term = 2}}}}}} and {{{{{{1 = 1}}}}}}", 2);
        asked(x, 0, "many not {not {not {term = 2}}} or not not 1 = 0", 3);
        Check.tell(x, 0, "[1;(2)]");
        asked(x, 0, "many term = 2", 59);
        asked(x, 0, "first behind = 0", 59);
        asked(x, 0, "many 1 = 1", 60);
        x.single(2, 1, 1, 0, 1, 0);
        asked(x, 2, "many 1 = 1", 0);
        asked(x, 2, "first 1 = 1", -1);
        Check.feed(x, "many 1 = 1 and on");
        Check.due("the first bytes alone", 60, x.ask(0, 10));
        Check.due("the tape is empty then", 0, x.count(1));
        Check.due("more than it has", ILLEGAL, () -> x.ask(0, 1));
        Check.due("n below 0", ILLEGAL, () -> x.ask(0, -1));
        Check.feed(x, "many 1 = 1");
        for (int row : BAD_ROWS) {
            Check.due("ask of row " + row, ILLEGAL, () -> x.ask(row, 10));
        }
        Check.due("nothing changed", 60, x.ask(0, 10));
        Check.due("ask is no act", 3, x.count(0));
    }

    private static void askFault(String text, int code, int place) {
        TermRows x = new TermRows();
        Check.due("ask '" + text + "'", -1000000000L - code, Check.ask(x, 3, text));
        Check.due("fault of '" + text + "'", place, x.fault());
        Check.due("tape behind '" + text + "'", 0, x.count(1));
    }

    private static void askFaults() {
        askFault("", 1, 0);
        askFault("many", 1, 4);
        askFault("some 1 = 1", 1, 0);
        askFault("Many 1 = 1", 1, 0);
        askFault("manyterm = 1", 1, 0);
        askFault("1 = 1", 1, 0);
        askFault("many 1", 1, 6);
        askFault("many 1 =", 1, 8);
        askFault("many 1 = = 1", 1, 9);
        askFault("many 1 1", 1, 7);
        askFault("many 1 = 1 1", 1, 11);
        askFault("many 1 = 1 and", 1, 14);
        askFault("many 1 = 1 or or", 1, 14);
        askFault("many 1 = 1 not", 1, 11);
        askFault("many or 1 = 1", 1, 5);
        askFault("many first 1 = 1", 1, 5);
        askFault("many { 1 = 1", 1, 12);
        askFault("many {1 = 1}}", 1, 12);
        askFault("many {}", 1, 6);
        askFault("many not", 1, 8);
        askFault("many -1 = 1", 1, 5);
        askFault("many terms = 1", 1, 5);
        askFault("many termz = 1", 1, 5);
        askFault("many aterm = 1", 1, 5);
        askFault("many term = 1 \t", 1, 14);
        askFault("many term = 10000", 2, 12);
        askFault("many 99999999999999999999 = 1", 2, 5);
        askFault("many 1 10000", 1, 7);
        askFault("many term = 10000 or", 2, 12);
        askFault("many {{{{{{{1 = 1}}}}}}}", 3, 11);
        askFault("many not {not {not {not 1 = 1}}}", 3, 20);
        askFault("many {{{{{{1 = 1 or not 1 = 1}}}}}}", 3, 20);
        askFault("many 1 = 1 not not not not not not not", 1, 11);
    }

    private static void fault() {
        TermRows x = new TermRows();
        Check.tell(x, 0, "[1;0]");
        Check.due("of told", 3, x.fault());
        Check.due("an exception", ILLEGAL, () -> x.told(0, 1));
        Check.due("an exception", ILLEGAL, () -> x.ask(10, 0));
        Check.due("keeps it", 3, x.fault());
        x.fraction(0, 1, 2);
        x.undo();
        Check.due("and so do other calls", 3, x.fault());
        Check.ask(x, 0, "many x");
        Check.due("of ask", 5, x.fault());
        Check.ask(x, 0, "many 1 = 1");
        Check.due("the latest had none", -1, x.fault());
        Check.ask(x, 0, "x");
        Check.tell(x, 0, "[1]");
        Check.due("the latest had none", -1, x.fault());
    }

    private static void fraction() {
        TermRows x = new TermRows();
        Check.due("415 by 93", true, x.fraction(0, 415, 93));
        Edges.terms("415 by 93", x, 0, 4, 2, 6, 7);
        x.fraction(0, -7, 3);
        Edges.terms("-7 by 3", x, 0, -3, 1, 2);
        x.fraction(0, -9999, 1);
        Edges.terms("-9999 by 1", x, 0, -9999);
        x.fraction(0, 1, 9999);
        Edges.terms("1 by 9999", x, 0, 0, 9999);
        x.fraction(0, -1, 9999);
        Edges.terms("-1 by 9999", x, 0, -1, 1, 9998);
        x.fraction(0, 6, 4);
        Edges.terms("6 by 4", x, 0, 1, 2);
        x.fraction(0, 6765, 4181);
        Edges.terms("6765 by 4181", x, 0, 1, 1, 1, 1, 1, 1, 1, 1, 1, 1, 1, 1, 1, 1, 1, 1, 1, 2);
        Check.due("it ends", 1, x.of(0, 2));
        int acts = x.count(0);
        for (int row : BAD_ROWS) {
            Check.due("fraction of row " + row, false, x.fraction(row, 1, 1));
        }
        Check.due("p", false, x.fraction(0, 10000, 1));
        Check.due("p", false, x.fraction(0, -10000, 1));
        Check.due("p", false, x.fraction(0, Integer.MIN_VALUE, 1));
        Check.due("q", false, x.fraction(0, 1, 0));
        Check.due("q", false, x.fraction(0, 1, -1));
        Check.due("q", false, x.fraction(0, 1, 10000));
        Check.due("nothing changed", acts, x.count(0));
        Edges.terms("nothing changed", x, 0, 1, 1, 1, 1, 1, 1, 1, 1, 1, 1, 1, 1, 1, 1, 1, 1, 1, 2);
    }

    private static void rooted(int p, int d, int q, int... first) {
        TermRows x = new TermRows();
        String what = "root " + p + " " + d + " " + q;
        Check.due(what, true, x.root(9, p, d, q));
        Check.due(what + " is a root", 1, x.of(9, 0));
        Check.due(what + " is cut", 0, x.of(9, 2));
        Check.due(what + " has 60", 60, x.of(9, 1));
        for (int k = 0; k < first.length; k++) {
            Check.due(what + ", term " + k, first[k], x.term(9, k));
        }
    }

    private static void root() {
        rooted(0, 2, 1, 1, 2, 2, 2);
        rooted(1, 5, 2, 1, 1, 1, 1);
        rooted(0, 19, 1, 4, 2, 1, 3, 1, 2, 8, 2);
        rooted(0, 2, -1, -2, 1, 1, 2, 2, 2);
        rooted(0, 2, 2, 0, 1, 2, 2, 2);
        rooted(0, 3, 5, 0, 2, 1, 7, 1, 4);
        rooted(-999, 2, 1, -998, 2, 2);
        rooted(-2, 3, 1, -1, 1, 2, 1, 2);
        rooted(999, 9998, -99, -12, 1, 8);
        TermRows x = new TermRows();
        x.root(0, 3, 9, 2);
        Edges.terms("a square", x, 0, 3);
        Check.due("ends", 1, x.of(0, 2));
        x.root(0, 1, 4, -7);
        Edges.terms("3 by -7", x, 0, -1, 1, 1, 3);
        x.root(0, -5, 0, -3);
        Edges.terms("the root of 0", x, 0, 1, 1, 2);
        x.root(0, -1, 1, 1);
        Edges.terms("nothing at all", x, 0, 0);
        int acts = x.count(0);
        for (int row : BAD_ROWS) {
            Check.due("root of row " + row, false, x.root(row, 1, 1, 1));
        }
        Check.due("P", false, x.root(0, 1000, 1, 1) || x.root(0, -1000, 1, 1));
        Check.due("D", false, x.root(0, 1, -1, 1) || x.root(0, 1, 10000, 1));
        Check.due("Q", false, x.root(0, 1, 1, 0) || x.root(0, 1, 1, 100) || x.root(0, 1, 1, -100));
        Check.due("least", false, x.root(0, Integer.MIN_VALUE, 1, 1) || x.root(0, 1, 1, Integer.MIN_VALUE));
        Check.due("nothing changed", acts, x.count(0));
        Check.due("edges", true, x.root(0, 999, 9999, 99) && x.root(0, -999, 0, -99));
    }

    private static void single() {
        TermRows x = new TermRows();
        x.fraction(0, 415, 93);
        Check.due("half", true, x.single(1, 0, 1, 0, 0, 2));
        Edges.terms("415 by 186", x, 1, 2, 4, 3, 14);
        x.single(1, 0, 0, 1, 1, 0);
        Edges.terms("93 by 415", x, 1, 0, 4, 2, 6, 7);
        x.single(1, 0, -1, 0, 0, 1);
        Edges.terms("-415 by 93", x, 1, -5, 1, 1, 6, 7);
        x.single(1, 0, 1, 0, 0, -1);
        Edges.terms("-415 by 93", x, 1, -5, 1, 1, 6, 7);
        x.single(1, 0, 0, 0, 0, 5);
        Edges.terms("0", x, 1, 0);
        x.single(1, 0, 93, -415, 1, 0);
        Edges.terms("0 above", x, 1, 0);
        x.single(1, 0, 1, 0, 93, -415);
        Edges.terms("0 below", x, 1);
        Check.due("0 below ends", 1, x.of(1, 2));
        Check.tell(x, 0, "[2;1]");
        x.single(1, 0, 1, 0, 0, 1);
        Edges.terms("a last 1 is reckoned away", x, 1, 3);
        x.root(0, 0, 2, 1);
        x.single(1, 0, 1, 1, 0, 1);
        Check.due("1 and root of 2: first", 2, x.term(1, 0));
        Check.due("1 and root of 2: last", 2, x.term(1, 58));
        Check.due("1 and root of 2: stuck", 3, x.of(1, 2));
        x.single(1, 0, 0, 1, 1, 0);
        Check.due("1 by root of 2 is cut", 0, x.of(1, 2));
        Check.due("1 by root of 2 has 60", 60, x.of(1, 1));
        Check.due("1 by root of 2 has read", 60, x.of(1, 3));
        int acts = x.count(0);
        for (int row : BAD_ROWS) {
            Check.due("single of row " + row, false, x.single(row, 0, 1, 0, 0, 1) || x.single(1, row, 1, 0, 0, 1));
        }
        Check.due("not of itself", false, x.single(1, 1, 1, 0, 0, 1) || x.single(0, 0, 1, 0, 0, 1) || x.single(1, 2, 1, 0, 0, 1));
        Check.due("c and d", false, x.single(1, 0, 1, 1, 0, 0));
        for (int n : new int[] {1000, -1000, Integer.MIN_VALUE, Integer.MAX_VALUE}) {
            Check.due("beyond", false, x.single(1, 0, n, 1, 1, 1) || x.single(1, 0, 1, n, 1, 1) || x.single(1, 0, 1, 1, n, 1) || x.single(1, 0, 1, 1, 1, n));
        }
        Check.due("nothing changed", acts, x.count(0));
        Check.due("edges", true, x.single(9, 8, 999, -999, 999, -999));
    }

    private static void join() {
        TermRows x = new TermRows();
        x.fraction(0, 415, 93);
        x.fraction(1, -7, 3);
        Check.due("and", true, x.join(2, 0, 0, 1));
        Edges.terms("198 by 93", x, 2, 2, 7, 1, 3);
        x.join(2, 1, 0, 1);
        Edges.terms("632 by 93", x, 2, 6, 1, 3, 1, 8, 2);
        x.join(2, 2, 0, 1);
        Edges.terms("-2905 by 279", x, 2, -11, 1, 1, 2, 2, 1, 7, 2);
        x.join(2, 3, 0, 1);
        Edges.terms("1245 by -651", x, 2, -2, 11, 2, 2, 1, 2);
        Check.due("it is double", 4, x.of(2, 0));
        Check.due("it ends", 1, x.of(2, 2));
        x.join(2, 1, 0, 0);
        Edges.terms("nothing left", x, 2, 0);
        x.join(3, 3, 0, 2);
        Edges.terms("by nothing", x, 3);
        Check.due("by nothing ends", 1, x.of(3, 2));
        x.root(0, 0, 2, 1);
        x.root(1, 0, 3, 1);
        x.join(2, 0, 0, 1);
        int[] first = {3, 6, 1, 5, 7, 1, 1, 4, 1, 38, 43, 1, 3, 2, 1, 1, 1, 1, 2, 4, 1};
        Edges.terms("root of 2 and root of 3", x, 2, first);
        int acts = x.count(0);
        for (int row : BAD_ROWS) {
            Check.due("join of row " + row, false, x.join(row, 0, 0, 0) || x.join(1, 0, row, 0) || x.join(1, 0, 0, row));
        }
        Check.due("how", false, x.join(1, -1, 0, 0) || x.join(1, 4, 0, 0));
        Check.due("not of itself", false, x.join(1, 0, 1, 0) || x.join(1, 0, 0, 1) || x.join(0, 0, 0, 0) || x.join(1, 0, 0, 2));
        Check.due("nothing changed", acts, x.count(0));
    }

    private static void undo() {
        TermRows x = new TermRows();
        for (int i = 1; i <= 20; i++) {
            x.fraction(0, i, 1);
            Check.due("acts", Math.min(i, 16), x.count(0));
        }
        for (int i = 19; i >= 4; i--) {
            Check.due("undo to " + i, i - 4, x.undo());
            Check.due("undone to " + i, i, x.term(0, 0));
        }
        Check.due("none can", -1, x.undo());
        Check.due("the row stays", 4, x.term(0, 0));
        x.single(3, 0, 2, 0, 0, 1);
        x.join(5, 2, 3, 0);
        Check.tell(x, 0, "[3;2]");
        Edges.terms("7 by 2, doubled, times itself", x, 5, 24, 2);
        Check.due("the same again is an act, too", true, x.single(3, 0, 2, 0, 0, 1));
        Check.due("undo", 3, x.undo());
        Check.due("undo of told", 2, x.undo());
        Edges.terms("what is made of it changes with it", x, 5, 32);
        x.root(0, 0, 2, 1);
        Check.due("cut", 0, x.of(0, 2));
        Check.due("undo of root", 2, x.undo());
        Edges.terms("as it was", x, 5, 32);
        Check.due("undo of join", 1, x.undo());
        Edges.terms("0 by 1 again", x, 5, 0);
        Check.due("undo of single", 0, x.undo());
        Edges.terms("0 by 1 again", x, 3, 0);
        Check.tell(x, 1, "[1;(2,3)]");
        Check.tell(x, 1, "[4;5,6]");
        Check.tell(x, 1, "[1;0]");
        Check.due("a fault is no act", 1, x.undo());
        Check.due("told comes back", 3, x.term(1, 58));
        Check.due("told comes back", 60, x.of(1, 1));
    }

    private static void count() {
        TermRows x = new TermRows();
        x.root(0, 0, 2, 1);
        x.single(1, 0, 1, 1, 0, 1);
        x.join(2, 2, 0, 0);
        x.single(3, 0, 0, 1, 1, 0);
        x.join(4, 0, 0, 3);
        x.feed(0, 0, 0, 0, 0);
        long[] want = {5, 20, 2, 2, 2, 5, 2, 1};
        for (int what = 0; what < want.length; what++) {
            Check.due("count " + what, want[what], x.count(what));
        }
        x.root(0, 0, 4, 1);
        long[] then = {6, 20, 2, 2, 0, 10, 0, 0};
        for (int what = 0; what < then.length; what++) {
            Check.due("count then " + what, then[what], x.count(what));
        }
        Check.due("no such count", NO_SUCH, () -> x.count(8));
        Check.due("no such count", NO_SUCH, () -> x.count(-1));
    }

    private static void of() {
        TermRows x = new TermRows();
        x.fraction(0, -7, 3);
        Check.tell(x, 1, "[1;2,9,3]");
        x.root(2, 0, 2, 1);
        x.single(3, 0, 1, 0, 0, 1);
        x.join(4, 0, 0, 0);
        x.join(5, 2, 0, 3);
        long[][] want = {
            {0, 3, 1, 0, 2, 0, 3}, {2, 4, 1, 0, 9, 15, 0}, {1, 60, 0, 0, 2, 119, 0}, {3, 3, 1, 3, 2, 0, 1},
            {4, 2, 1, 6, 3, -2, 0}};
        for (int row = 0; row < want.length; row++) {
            for (int what = 0; what < 7; what++) {
                Check.due("of " + row + " " + what, want[row][what], x.of(row, what));
            }
        }
        x.fraction(6, -5, 1);
        Check.due("no greatest", 0, x.of(6, 4));
        Check.due("sum", -5, x.of(6, 5));
        for (int row : BAD_ROWS) {
            Check.due("of row " + row, NO_SUCH, () -> x.of(row, 0));
        }
        Check.due("no such fact", NO_SUCH, () -> x.of(0, 7));
        Check.due("no such fact", NO_SUCH, () -> x.of(0, -1));
    }

    private static void greatestTerm() {
        TermRows x = Edges.thousands();
        x.single(3, 2, 1, 1, 0, 1);
        Edges.terms("beyond", x, 3);
        Check.due("beyond is spent", 2, x.of(3, 2));
        x.single(3, 2, -1, 0, 0, 1);
        Edges.terms("-10 to the 9", x, 3, -1000000000);
        x.single(3, 2, -1, -1, 0, 1);
        Edges.terms("beyond", x, 3);
        Check.due("beyond is spent", 2, x.of(3, 2));
        Check.due("read counts", 1, x.of(3, 3));
        x.single(3, 2, 999, 0, 0, 999);
        Edges.terms("above of 999 times 10 to the 9", x, 3, 1000000000);
        x.single(3, 1, 999, 0, 0, 1);
        Edges.terms("999 times 10 to the 6", x, 3, 999000000);
        x.join(4, 2, 2, 1);
        Edges.terms("a term of 10 to the 15", x, 4);
        Check.due("is spent", 2, x.of(4, 2));
        x.join(5, 3, 2, 1);
        Edges.terms("10 to the 9 by 10 to the 6", x, 5, 1000);
        x.join(6, 2, 2, 2);
        Check.due("10 to the 18 is spent", 2, x.of(6, 2));
        Check.due("when it has read both", 2, x.of(6, 3));
    }

    /** Three terms of 10 to the 9: more than an int holds. */
    private static void sumWraps() {
        TermRows x = Edges.thousands();
        x.single(3, 2, 2, 1, 1, 0);
        x.single(4, 3, 0, 1, 1, 0);
        x.join(5, 0, 2, 4);
        x.single(6, 5, 2, 1, 1, 0);
        x.single(7, 6, 0, 1, 1, 0);
        x.join(8, 0, 2, 7);
        Edges.terms("great terms", x, 8, 1000000000, 2, 1000000000, 2, 1000000000);
        Check.due("the sum wraps", -1294967292, x.of(8, 5));
        asked(x, 8, "many sum > 9999", 5);
        Check.due("said", "[1000000000;2,1000000000,2,1000000000]", Check.say(x, 8, 60));
        Check.due("within", 2000000001L, x.convergent(8, 1, false));
        Check.due("beyond above", -1, x.convergent(8, 2, true));
        Check.due("one that is beyond isn't the nearest", 1, x.nearest(8, Integer.MAX_VALUE));
    }

    /** Ones and what follows: rows whose last CONVERGENT has just 10 to the 15, or 1 more, above. */
    private static void justWithin() {
        String ones = ",1,1,1,1,1,1,1,1,1,1,1,1,1,1,1,1,1,1,1,1,1,1,1,1,1,1,1,1,1,1";
        String within = ones + ",2,30,2,3,12,1,1,1,1,1,10,1,63,1,3]";
        String beyond = ones + ",1,1,1,5,10,1,4,2,10,2,3,17,1,7,1,4]";
        limit("[1;1,1" + within, 1000000000000000L, 1);
        limit("[-2;2" + within, -1000000000000000L, 1);
        limit("[1;1,1" + beyond, -1, 2);
        limit("[-2;2" + beyond, -1, 2);
    }

    /** A SINGLE 0 0 1 0 has the CONVERGENTS' numbers among its own and ends with them. */
    private static void limit(String text, long above, int stop) {
        TermRows x = new TermRows();
        Check.due("told " + text, true, Check.tell(x, 0, text) > 0);
        int last = x.of(0, 1) - 1;
        Check.due("above of " + text, above, x.convergent(0, last, false));
        x.single(1, 0, 0, 0, 1, 0);
        Check.due("numbers of " + text, stop, x.of(1, 2));
        Check.due("all read of " + text, last + 1, x.of(1, 3));
    }

    private static void term() {
        TermRows x = new TermRows();
        x.fraction(0, 415, 93);
        Check.due("term", 4, x.term(0, 0));
        Check.due("term", 7, x.term(0, 3));
        Check.due("behind the last", NO_SUCH, () -> x.term(0, 4));
        Check.due("ahead of the first", NO_SUCH, () -> x.term(0, -1));
        x.root(0, 0, 2, 1);
        Check.due("the last", 2, x.term(0, 59));
        Check.due("behind the last", NO_SUCH, () -> x.term(0, 60));
        Check.due("far", NO_SUCH, () -> x.term(0, Integer.MAX_VALUE));
        Check.due("far", NO_SUCH, () -> x.term(0, Integer.MIN_VALUE));
        for (int row : BAD_ROWS) {
            Check.due("term of row " + row, NO_SUCH, () -> x.term(row, 0));
        }
    }

    private static void read() {
        TermRows x = new TermRows();
        x.root(0, 0, 2, 1);
        x.single(1, 0, 1, 1, 0, 1);
        for (int k = 0; k < 59; k++) {
            Check.due("read at " + k, k + 2, x.read(1, k, false));
        }
        Check.due("not let out", NO_SUCH, () -> x.read(1, 59, false));
        Check.due("ahead", NO_SUCH, () -> x.read(1, -1, false));
        Check.due("a single has no second", NO_SUCH, () -> x.read(1, 0, true));
        Check.due("a root reads none", NO_SUCH, () -> x.read(0, 0, false));
        Check.due("a fraction reads none", NO_SUCH, () -> x.read(5, 0, false));
        x.fraction(2, 1, 2);
        x.join(3, 0, 2, 0);
        // x is 0, 2, its end; y 1, 2, 2, ..: turns x y x y x, then y alone: 1.9142.. is 1, 1, 10, ..
        Edges.terms("a half and the root of 2", x, 3, firstOf(x, 3));
        Check.due("first of x", 2, x.read(3, 0, false));
        Check.due("first of y", 3, x.read(3, 0, true));
        Check.due("later of x", 2, x.read(3, 5, false));
        for (int row : BAD_ROWS) {
            Check.due("read of row " + row, NO_SUCH, () -> x.read(row, 0, false));
        }
        x.fraction(4, 3, 1);
        x.single(5, 4, 1, 0, 0, 1);
        Check.due("the end is no term", 1, x.read(5, 0, false));
        x.join(6, 0, 4, 4);
        Check.due("the end is no term", 1, x.read(6, 0, false));
        Check.due("the end is no term", 1, x.read(6, 0, true));
        Check.due("the end is no term", 2, x.of(6, 3));
    }

    private static int[] firstOf(TermRows x, int row) {
        int[] all = new int[x.of(row, 1)];
        for (int k = 0; k < all.length; k++) {
            all[k] = x.term(row, k);
        }
        return all;
    }

    private static void spentAndStuck() {
        TermRows x = new TermRows();
        x.root(0, 0, 2, 1);
        x.join(1, 2, 0, 0);
        Check.due("root of 2 times itself is spent", 2, x.of(1, 2));
        Check.due("without a term", 0, x.of(1, 1));
        // The lower numbers are those of the convergents times one another: 1, 2, 5, 12, .. of x with
        // those of y; with 20 of each, 15994428 times 15994428 is within 10 to the 15, and above it, too.
        Check.due("as soon as a number is beyond", 41, x.of(1, 3));
        x.single(2, 1, 1, 0, 0, 1);
        Check.due("what reads a spent row is stuck", 3, x.of(2, 2));
        Check.due("without reading", 0, x.of(2, 3));
        x.join(4, 0, 3, 2);
        Check.due("one turn, then stuck", 3, x.of(4, 2));
        Check.due("one turn, then stuck", 1, x.of(4, 3));
        x.join(4, 0, 2, 3);
        Check.due("stuck at the first turn", 3, x.of(4, 2));
        Check.due("stuck at the first turn", 0, x.of(4, 3));
        Check.tell(x, 5, "[1;(1)]");
        x.single(6, 5, 1, 0, 0, 1);
        Check.due("stuck behind what is cut", 3, x.of(6, 2));
        Check.due("with all read", 60, x.of(6, 3));
        Check.due("58 let out", 58, x.of(6, 1));
        StringBuilder sixty = new StringBuilder("[3");
        for (int i = 1; i < 60; i++) {
            sixty.append(",2");
        }
        Check.tell(x, 7, sixty + "]");
        x.single(8, 7, 1, 0, 0, 1);
        Check.due("cut also if it would end there", 0, x.of(7, 2));
        Check.due("so that who reads it is stuck", 3, x.of(8, 2));
        x.single(9, 7, 0, 1, 1, 0);
        Check.due("0 ahead of 59", 60, x.of(9, 1));
        Check.due("cut at 60", 0, x.of(9, 2));
    }

    private static void convergent() {
        TermRows x = new TermRows();
        x.fraction(0, 415, 93);
        long[][] want = {{4, 1}, {9, 2}, {58, 13}, {415, 93}};
        for (int k = 0; k < 4; k++) {
            Check.due("above " + k, want[k][0], x.convergent(0, k, false));
            Check.due("below " + k, want[k][1], x.convergent(0, k, true));
        }
        x.fraction(0, -7, 3);
        Check.due("above", -3, x.convergent(0, 0, false));
        Check.due("above", -2, x.convergent(0, 1, false));
        Check.due("above", -7, x.convergent(0, 2, false));
        Check.due("not known", NO_SUCH, () -> x.convergent(0, 3, false));
        Check.due("not known", NO_SUCH, () -> x.convergent(0, -1, false));
        for (int row : BAD_ROWS) {
            Check.due("convergent of row " + row, NO_SUCH, () -> x.convergent(row, 0, true));
        }
        Check.tell(x, 0, "[9;(9999)]");
        Check.due("within", 899830017L, x.convergent(0, 2, false));
        Check.due("within", 8997400429975L, x.convergent(0, 3, false));
        Check.due("beyond above", -1, x.convergent(0, 4, false));
        Check.due("beyond below, too", -1, x.convergent(0, 4, true));
        Check.due("and all behind it", -1, x.convergent(0, 59, true));
        Check.tell(x, 0, "[1000;1000,1000,1000,1000]");
        Check.due("beyond above", -1, x.convergent(0, 4, false));
        Check.due("so none below", -1, x.convergent(0, 4, true));
        Check.tell(x, 0, "[1;(1)]");
        Check.due("above", 2504730781961L, x.convergent(0, 59, false));
        Check.due("below", 1548008755920L, x.convergent(0, 59, true));
    }

    private static void nearest() {
        TermRows x = new TermRows();
        x.fraction(0, 415, 93);
        int[][] want = {{1, 0}, {2, 1}, {12, 1}, {13, 2}, {92, 2}, {93, 3}, {Integer.MAX_VALUE, 3}};
        for (int[] pair : want) {
            Check.due("nearest " + pair[0], pair[1], x.nearest(0, pair[0]));
        }
        Check.tell(x, 0, "[5;1,1,3]");
        Check.due("two with 1 below", 1, x.nearest(0, 1));
        Check.due("most", ILLEGAL, () -> x.nearest(0, 0));
        Check.due("most", ILLEGAL, () -> x.nearest(0, Integer.MIN_VALUE));
        x.fraction(0, 0, 1);
        x.single(1, 0, 1, 0, 1, 0);
        Check.due("no terms", NO_SUCH, () -> x.nearest(1, 5));
        Check.due("no terms ahead of most", NO_SUCH, () -> x.nearest(1, 0));
        for (int row : BAD_ROWS) {
            Check.due("nearest of row " + row, NO_SUCH, () -> x.nearest(row, 0));
        }
    }

    private static void mediant() {
        TermRows x = new TermRows();
        x.fraction(0, 415, 93);
        for (int m = 0; m <= 6; m++) {
            Check.due("above with " + m, 4 + 9 * m, x.mediant(0, 0, m, false));
            Check.due("below with " + m, 1 + 2 * m, x.mediant(0, 0, m, true));
        }
        Check.due("the last one", 9 + 58 * 7, x.mediant(0, 1, 7, false));
        Check.due("no such m", NO_SUCH, () -> x.mediant(0, 0, 7, true));
        Check.due("no such m", NO_SUCH, () -> x.mediant(0, 0, -1, true));
        Check.due("not known", NO_SUCH, () -> x.mediant(0, 2, 0, true));
        Check.due("not known", NO_SUCH, () -> x.mediant(0, -1, 0, true));
        Check.due("not known", NO_SUCH, () -> x.mediant(0, Integer.MAX_VALUE, 0, true));
        for (int row : BAD_ROWS) {
            Check.due("mediant of row " + row, NO_SUCH, () -> x.mediant(row, 0, 0, true));
        }
        Check.tell(x, 0, "[9;(9999)]");
        Check.due("within", 899830017L + 111 * 8997400429975L, x.mediant(0, 2, 111, false));
        Check.due("beyond above", -1, x.mediant(0, 2, 112, false));
        Check.due("beyond above, none below", -1, x.mediant(0, 2, 112, true));
        Check.due("beyond", -1, x.mediant(0, 2, 9999, false));
        Check.due("beyond of what comes behind", -1, x.mediant(0, 3, 1, true));
    }

    private static void compareAndAlike() {
        TermRows x = new TermRows();
        Check.tell(x, 0, "[2;1]");
        Check.tell(x, 1, "[3]");
        Check.tell(x, 2, "[2;1,4]");
        Check.tell(x, 3, "[2;(1)]");
        Check.tell(x, 4, "[2;1,1,1]");
        Check.tell(x, 5, "[-3;2]");
        Check.tell(x, 6, "[2;3]");
        compared(x, 0, 1, -1, 0);
        compared(x, 0, 2, 1, 2);
        compared(x, 0, 0, 0, 2);
        compared(x, 2, 3, 1, 2);
        compared(x, 3, 3, -2, 60);
        compared(x, 3, 4, -1, 4);
        compared(x, 5, 0, -1, 0);
        compared(x, 0, 6, 1, 1);
        x.single(8, 3, 1, 0, 0, 1);
        compared(x, 3, 8, -2, 58);
        x.single(9, 7, 1, 0, 1, 0);
        compared(x, 9, 0, 1, 0);
        compared(x, 9, 9, 0, 0);
        for (int row : BAD_ROWS) {
            Check.due("compare with row " + row, NO_SUCH, () -> x.compare(row, 0));
            Check.due("compare with row " + row, NO_SUCH, () -> x.compare(0, row));
            Check.due("alike with row " + row, NO_SUCH, () -> x.alike(row, 0));
            Check.due("alike with row " + row, NO_SUCH, () -> x.alike(0, row));
        }
    }

    private static void compared(TermRows x, int one, int two, int want, int alike) {
        Check.due("compare " + one + " " + two, want, x.compare(one, two));
        Check.due("compare " + two + " " + one, want == -2 ? -2 : -want, x.compare(two, one));
        Check.due("alike " + one + " " + two, alike, x.alike(one, two));
        Check.due("alike " + two + " " + one, alike, x.alike(two, one));
    }

    private static void comesAgain(String text, int t, int d) {
        TermRows x = new TermRows();
        Check.tell(x, 0, text);
        Check.due("again of " + text, t, x.again(0, 0));
        Check.due("again of " + text, d, x.again(0, 1));
    }

    private static String rising(int from, int to) {
        StringBuilder text = new StringBuilder();
        for (int i = from; i <= to; i++) {
            text.append(i == from ? "" : ",").append(i);
        }
        return text.toString();
    }

    private static void again() {
        comesAgain("[1;(2)]", 1, 1);
        comesAgain("[2;(2)]", 0, 1);
        comesAgain("[1;2,(3,4)]", 2, 2);
        comesAgain("[4;2,(3,4)]", 2, 2);
        comesAgain("[1;2,3,(3,3)]", 2, 1);
        comesAgain("[1;(2,3,2,3,4)]", 1, 5);
        comesAgain("[1;2]", -1, -1);
        comesAgain("[0;(" + rising(1, 29) + ")]", 1, 29);
        comesAgain("[30;(" + rising(1, 30) + ")]", 0, 30);
        comesAgain("[31;(" + rising(1, 30) + ")]", -1, -1);
        TermRows x = new TermRows();
        Check.due("it isn't cut", -1, x.again(0, 0));
        Check.due("another what", NO_SUCH, () -> x.again(0, 2));
        Check.due("another what", NO_SUCH, () -> x.again(0, -1));
        for (int row : BAD_ROWS) {
            Check.due("again of row " + row, NO_SUCH, () -> x.again(row, 0));
        }
    }

    private static void tails() {
        TermRows x = new TermRows();
        x.root(0, 1, 2, 1);
        x.root(1, 0, 2, 1);
        tailed(x, 0, 1, 0, 1);
        tailed(x, 1, 0, 1, 0);
        tailed(x, 1, 1, 0, 0);
        Check.tell(x, 2, "[9;8,7,(1,2)]");
        Check.tell(x, 3, "[5;(2,1)]");
        tailed(x, 2, 3, 3, 2);
        tailed(x, 3, 2, 1, 4);
        tailed(x, 0, 3, -1, -1);
        Check.tell(x, 4, "[1;" + rising(1, 39) + ",(50)]");
        Check.tell(x, 5, "[49;(50)]");
        tailed(x, 4, 5, 40, 1);
        Check.tell(x, 4, "[1;" + rising(1, 40) + ",(50)]");
        tailed(x, 4, 5, -1, -1);
        Check.tell(x, 4, "[1;" + rising(1, 39) + ",(50)]");
        Check.tell(x, 5, "[2;" + rising(101, 139) + ",(50)]");
        tailed(x, 4, 5, 40, 40);
        x.fraction(6, 1, 2);
        tailed(x, 6, 6, -1, -1);
        tailed(x, 0, 6, -1, -1);
        Check.due("another what", NO_SUCH, () -> x.tails(0, 1, 2));
        Check.due("another what", NO_SUCH, () -> x.tails(0, 1, -1));
        for (int row : BAD_ROWS) {
            Check.due("tails with row " + row, NO_SUCH, () -> x.tails(row, 0, 0));
            Check.due("tails with row " + row, NO_SUCH, () -> x.tails(0, row, 0));
        }
    }

    private static void tailed(TermRows x, int one, int two, int k, int l) {
        Check.due("tails " + one + " " + two, k, x.tails(one, two, 0));
        Check.due("tails " + one + " " + two, l, x.tails(one, two, 1));
    }

    private static void floor() {
        TermRows x = new TermRows();
        x.root(0, 0, 2, 1);
        Check.due("root of 2", 1, x.floor(0, 1));
        Check.due("root of 2, 100 times", 141, x.floor(0, 100));
        Check.due("root of 2, 9999 times", 14140, x.floor(0, 9999));
        x.fraction(0, -7, 3);
        Check.due("-7 by 3", -3, x.floor(0, 1));
        Check.due("-7 by 3, 3 times", -7, x.floor(0, 3));
        x.fraction(9, 415, 93);
        Check.due("of the last row", 44, x.floor(9, 10));
        x.single(3, 2, 1, 0, 1, 0);
        Check.due("it has none", -1000000000L, x.floor(3, 3));
        x.root(0, 0, 2, 1);
        x.join(1, 2, 0, 0);
        Check.due("of a spent row", -1000000000L, x.floor(1, 3));
        Check.due("n", ILLEGAL, () -> x.floor(0, 0));
        Check.due("n", ILLEGAL, () -> x.floor(0, 10000));
        Check.due("n", ILLEGAL, () -> x.floor(0, Integer.MIN_VALUE));
        for (int row : BAD_ROWS) {
            Check.due("floor of row " + row, NO_SUCH, () -> x.floor(row, 0));
        }
    }

    private static void would() {
        TermRows x = new TermRows();
        x.root(9, 0, 2, 1);
        int acts = x.count(0);
        int[] half = {0, 1, 2, 2, 2};
        for (int k = 0; k < half.length; k++) {
            Check.due("half the root of 2, " + k, half[k], x.would(9, k, 1, 0, 0, 2));
        }
        Check.due("the last", 2, x.would(9, 59, 0, 1, 1, 0));
        Check.due("it has none", -1000000000L, x.would(9, 59, 1, 0, 0, 1));
        Check.due("it has none", -1000000000L, x.would(0, 0, 1, 0, 1, 0));
        Check.due("would is no act", acts, x.count(0));
        Check.due("and changes nothing", 1, x.term(9, 0));
        Check.due("k", NO_SUCH, () -> x.would(9, 60, 1, 0, 0, 1));
        Check.due("k", NO_SUCH, () -> x.would(9, -1, 1, 0, 0, 0));
        Check.due("c and d", ILLEGAL, () -> x.would(9, 0, 1, 0, 0, 0));
        for (int n : new int[] {1000, -1000, Integer.MIN_VALUE}) {
            Check.due("beyond", ILLEGAL, () -> x.would(9, 0, n, 0, 0, 1));
            Check.due("beyond", ILLEGAL, () -> x.would(9, 0, 0, n, 0, 1));
            Check.due("beyond", ILLEGAL, () -> x.would(9, 0, 0, 0, n, 1));
            Check.due("beyond", ILLEGAL, () -> x.would(9, 0, 0, 0, 1, n));
        }
        for (int row : BAD_ROWS) {
            Check.due("would of row " + row, NO_SUCH, () -> x.would(row, 0, 1, 0, 0, 0));
        }
    }

    private static void often() {
        TermRows x = new TermRows();
        Check.tell(x, 0, "[2;2,3,2,2]");
        Check.due("behind the first", 3, x.often(0, 2));
        Check.due("3", 1, x.often(0, 3));
        Check.due("none", 0, x.often(0, 0));
        Check.due("none", 0, x.often(0, -1));
        Check.due("none behind", 0, x.often(1, 0));
        x.root(0, 0, 2, 1);
        Check.due("root of 2", 59, x.often(0, 2));
        for (int row : BAD_ROWS) {
            Check.due("often of row " + row, NO_SUCH, () -> x.often(row, 0));
        }
    }

    private static void left() {
        TermRows x = new TermRows();
        x.root(0, 0, 19, 1);
        int[][] want = {{0, 1}, {4, 3}, {2, 5}, {3, 2}, {3, 5}, {2, 3}, {4, 1}, {4, 3}};
        for (int k = 0; k < want.length; k++) {
            Check.due("P of 19 at " + k, want[k][0], x.left(0, k, 0));
            Check.due("Q of 19 at " + k, want[k][1], x.left(0, k, 1));
        }
        x.root(0, 1, 3, 5);
        Check.due("P as D, P, Q become 75, 5, 25", 5, x.left(0, 0, 0));
        Check.due("Q as D, P, Q become 75, 5, 25", 25, x.left(0, 0, 1));
        Check.due("P next", -5, x.left(0, 1, 0));
        Check.due("Q next", 2, x.left(0, 1, 1));
        x.root(0, 1, 3, -5);
        Check.due("P as Q is below 0", 5, x.left(0, 0, 0));
        Check.due("Q as Q is below 0", -25, x.left(0, 0, 1));
        x.root(0, 0, 2, 1);
        Check.due("the last P", 1, x.left(0, 59, 0));
        Check.due("k", NO_SUCH, () -> x.left(0, 60, 0));
        Check.due("k", NO_SUCH, () -> x.left(0, -1, 0));
        Check.due("what", NO_SUCH, () -> x.left(0, 0, 2));
        Check.due("what", NO_SUCH, () -> x.left(0, 0, -1));
        Check.due("a fraction", NO_SUCH, () -> x.left(1, 0, 0));
        x.root(0, 0, 4, 1);
        Check.due("a square", NO_SUCH, () -> x.left(0, 0, 0));
        x.root(0, 0, 0, 1);
        Check.due("0 is a square", NO_SUCH, () -> x.left(0, 0, 0));
        for (int row : BAD_ROWS) {
            Check.due("left of row " + row, NO_SUCH, () -> x.left(row, 0, 0));
        }
    }

    private static void said(String text, int n, String want) {
        TermRows x = new TermRows();
        Check.tell(x, 0, text);
        Check.due("say " + n + " of " + text, want, Check.say(x, 0, n));
    }

    private static void say() {
        said("[-5]", 9, "[-5]");
        said("[4,2,6;7]", 60, "[4;2,6,7]");
        said("[4,2,6;7]", 4, "[4;2,6,7]");
        said("[4,2,6;7]", 3, "[4;2,6~]");
        said("[4,2,6;7]", 1, "[4~]");
        said("[1;2,(3,4)]", 10, "[1;2,(3,4)]");
        said("[1;2,(3,4)]", 4, "[1;2,(3,4)]");
        said("[1;2,(3,4)]", 3, "[1;2,3~]");
        said("[1;(2)]", 2, "[1;(2)]");
        said("[1;(2)]", 1, "[1~]");
        said("[1;(1)]", 2, "[1;(1)]");
        said("[1;(1)]", 1, "[1~]");
        said("[1;(2,1)]", 3, "[1;(2,1)]");
        said("[1;(2,1)]", 2, "[1;2~]");
        said("[9;8,(1230,45,6)]", 5, "[9;8,(1230,45,6)]");
        TermRows x = new TermRows();
        x.single(1, 0, 1, 0, 1, 0);
        Check.due("nothing", "[]", Check.say(x, 1, 1));
        x.root(2, 0, 2, 1);
        x.join(3, 2, 2, 2);
        Check.due("nothing of a spent row", "[~]", Check.say(x, 3, 1));
        x.single(4, 2, 1, 0, 0, 1);
        Check.due("59 terms of a stuck row", 120, Check.say(x, 4, 60).length());
        Check.due("a stuck row doesn't end", 1, Check.said(x).endsWith(",2~]") ? 1 : 0);
        Check.tell(x, 5, "[1;" + rising(1, 40) + ",(50,51,52,53,54,55,56,57,58,59,60,61,62,63,64)]");
        Check.due("a cut row that doesn't come again ends in ~", 1, Check.say(x, 5, 60).endsWith(",53~]") ? 1 : 0);
        Check.due("n", ILLEGAL, () -> x.say(0, 0));
        Check.due("n", ILLEGAL, () -> x.say(0, 61));
        for (int row : BAD_ROWS) {
            Check.due("say of row " + row, NO_SUCH, () -> x.say(row, 0));
        }
    }

    private static void said() {
        TermRows x = new TermRows();
        Check.due("nothing was said", -1, x.said(0));
        x.fraction(0, -7, 3);
        Check.due("bytes", 8, x.say(0, 5));
        x.fraction(0, 1, 1);
        Check.due("n", ILLEGAL, () -> x.say(0, 0));
        Check.due("no row", NO_SUCH, () -> x.say(10, 1));
        Check.due("as it was then", "[-3;1,2]", Check.said(x));
        Check.due("behind it", -1, x.said(8));
        Check.due("ahead of it", -1, x.said(-1));
        Check.due("far", -1, x.said(Integer.MAX_VALUE));
        x.say(0, 1);
        Check.due("the latest alone", "[1]", Check.said(x));
        Check.due("the latest alone", -1, x.said(3));
    }
}
