/** What rows are and how they change: the beginning of "## Terms", ACTS, promises 1 and 6 to 10. */
final class ActEdges {
    private static final int LEAST = Integer.MIN_VALUE;
    private static final int MOST = Integer.MAX_VALUE;

    private ActEdges() {
    }

    static void hold(Sentences doc) {
        calls(doc);
        rows(doc);
        fractionsAndRoots(doc);
        kinds(doc);
        newObject(doc);
        fraction(doc);
        root(doc);
        single(doc);
        join(doc);
        acts(doc);
        undo(doc);
    }

    private static void calls(Sentences doc) {
        doc.beginning("An object is used for at most 512 calls after it has been made; what later calls answer is free.", () -> {
            TermRows x = new TermRows();
            for (int call = 1; call < 510; call += 3) {
                Check.due("call " + call, true, x.fraction(call % 10, call, 1));
                Check.due("call " + (call + 1), call, x.term(call % 10, 0));
                Check.due("call " + (call + 2), Math.min(16, call / 3 + 1), x.count(0));
            }
            Check.due("call 511", 15, x.undo());
            Check.due("call 512", 478, x.term(8, 0));
        });
    }

    private static void rows(Sentences doc) {
        doc.terms("ROWS 0 to 9.", () -> {
            TermRows x = new TermRows();
            for (int row = 0; row < 10; row++) {
                Check.due("row " + row, true, x.fraction(row, 10 + row, 1));
            }
            for (int row = 0; row < 10; row++) {
                Check.due("row " + row, 10 + row, x.term(row, 0));
            }
            for (int row : Edges.BAD_ROWS) {
                Check.due("row " + row, false, x.fraction(row, 1, 1));
                Check.due("row " + row, Edges.NO_SUCH, () -> x.term(row, 0));
            }
        });
        doc.terms("A ROW stands for a number: TERM 0 and 1 by (TERM 1 and 1 by (..)); TERMS behind the first are 1 or more.", () -> {
            TermRows x = new TermRows();
            x.fraction(0, -9999, 9998);
            x.root(1, -999, 9999, -99);
            x.single(2, 1, -3, 0, 0, 7);
            x.join(3, 1, 0, 1);
            x.join(4, 2, 1, 0);
            x.join(5, 3, 0, 1);
            for (int row = 0; row < 6; row++) {
                Check.due("it has terms", true, x.of(row, 1) > 2);
                for (int k = 1; k < Math.min(12, x.of(row, 1)); k++) {
                    Check.due("row " + row + ", term " + k, true, x.term(row, k) >= 1);
                }
            }
            Check.due("above of all terms", -9999, x.convergent(0, x.of(0, 1) - 1, false));
            Check.due("below of all terms", 9998, x.convergent(0, x.of(0, 1) - 1, true));
        });
        doc.terms("At first each is the FRACTION 0 by 1.", () -> {
            TermRows x = new TermRows();
            for (int row = 0; row < 10; row++) {
                Check.due("a fraction", 0, x.of(row, 0));
                Edges.terms("row " + row, x, row, 0);
            }
        });
    }

    private static void divides(int p, int q, int... terms) {
        TermRows x = new TermRows();
        Check.due(p + " by " + q, true, x.fraction(0, p, q));
        Edges.terms(p + " by " + q, x, 0, terms);
        Edges.stops(p + " by " + q, x, 0, Edges.ENDS, 0);
    }

    private static void squared(int p, int d, int q, int... terms) {
        TermRows x = new TermRows();
        String what = "root " + p + " " + d + " " + q;
        Check.due(what, true, x.root(9, p, d, q));
        Edges.terms(what, x, 9, terms);
        Edges.stops(what, x, 9, Edges.ENDS, 0);
    }

    private static void goesOn(int p, int d, int q, int... first) {
        TermRows x = new TermRows();
        String what = "root " + p + " " + d + " " + q;
        Check.due(what, true, x.root(9, p, d, q));
        Check.due(what + " has 60", 60, x.of(9, 1));
        Edges.stops(what, x, 9, Edges.CUT, 0);
        for (int k = 0; k < first.length; k++) {
            Check.due(what + ", term " + k, first[k], x.term(9, k));
        }
    }

    private static void fractionsAndRoots(Sentences doc) {
        doc.terms("Each is one of: a FRACTION p by q (p -9999 to 9999, q 1 to 9999):", () -> {
            divides(9999, 1, 9999);
            divides(-9999, 1, -9999);
            divides(9999, 9999, 1);
            divides(0, 9999, 0);
            divides(1, 9999, 0, 9999);
            TermRows x = new TermRows();
            Check.due("p too large", false, x.fraction(0, 10000, 1));
            Check.due("p too small", false, x.fraction(0, -10000, 1));
            Check.due("q too small", false, x.fraction(0, 1, 0));
            Check.due("q too large", false, x.fraction(0, 1, 10000));
        });
        doc.terms("TERMS by dividing, rounded down; again and again 1 by the rest, while there is one.", () -> {
            divides(415, 93, 4, 2, 6, 7);
            divides(-1, 2, -1, 2);
            divides(-1, 9999, -1, 1, 9998);
            divides(-7, 3, -3, 1, 2);
            divides(-9999, 9998, -2, 1, 9997);
            divides(6, 3, 2);
            divides(-6, 3, -2);
            divides(6, 4, 1, 2);
            divides(6765, 4181, 1, 1, 1, 1, 1, 1, 1, 1, 1, 1, 1, 1, 1, 1, 1, 1, 1, 2);
        });
        doc.terms("A ROOT: (P and the root of D) by Q (P -999 to 999, D 0 to 9999, Q -99 to 99, not 0): TERMS likewise;", () -> {
            // 999 and the root of 9999, by 99: 11.1009..; by -99: -11.1009..; -999 likewise: -9.0808.., 9.0808..
            goesOn(999, 9999, 99, 11, 9, 1);
            goesOn(999, 9999, -99, -12, 1, 8);
            goesOn(-999, 9999, 99, -10, 1, 11);
            goesOn(-999, 9999, -99, 9, 12);
            goesOn(0, 2, -1, -2, 1, 1, 2, 2);
            goesOn(0, 2, 2, 0, 1, 2, 2);
            TermRows x = new TermRows();
            Check.due("P too large", false, x.root(0, 1000, 2, 1));
            Check.due("P too small", false, x.root(0, -1000, 2, 1));
            Check.due("D too small", false, x.root(0, 0, -1, 1));
            Check.due("D too large", false, x.root(0, 0, 10000, 1));
            Check.due("Q too small", false, x.root(0, 0, 2, -100));
            Check.due("Q too large", false, x.root(0, 0, 2, 100));
            Check.due("Q 0", false, x.root(0, 0, 2, 0));
        });
        doc.terms("it ENDS, if D is a square.", () -> {
            squared(0, 0, 1, 0);
            squared(0, 0, -99, 0);
            squared(0, 1, 1, 1);
            squared(0, 4, -1, -2);
            squared(3, 1, -1, -4);
            squared(0, 1, -2, -1, 2);
            squared(1, 4, 7, 0, 2, 3);
            squared(1, 4, -7, -1, 1, 1, 3);
            squared(-999, 9801, -99, 9, 11);
            squared(999, 9801, 99, 11, 11);
            goesOn(0, 9800, 1, 98, 1);
            goesOn(0, 9802, 1, 99, 198);
            goesOn(0, 3, 1, 1, 1, 2);
        });
    }

    private static void kinds(Sentences doc) {
        doc.terms("TOLD: by a text.", () -> {
            TermRows x = Edges.told("[2;1]");
            Check.due("told", 2, x.of(0, 0));
            Edges.terms("just as it was told, with a last 1", x, 0, 2, 1);
        });
        doc.terms("SINGLE of ROW i: (a x + b) by (c x + d).", () -> {
            TermRows x = new TermRows();
            x.fraction(0, 415, 93);
            x.single(9, 0, 3, -2, -5, 7);
            Check.due("single", 3, x.of(9, 0));
            // (3 415 - 2 93) by (7 93 - 5 415): 1059 by -1424.
            Edges.terms("1059 by -1424", x, 9, -1, 3, 1, 9, 7, 5);
            Check.due("above", -1059, x.convergent(9, 5, false));
            Check.due("below", 1424, x.convergent(9, 5, true));
        });
        doc.terms("DOUBLE of ROWS i and j: x + y, x - y, x y, x by y (how 0 to 3).", () -> {
            TermRows x = new TermRows();
            x.fraction(0, 7, 2);
            x.fraction(1, -2, 3);
            int[][] due = {{17, 6}, {25, 6}, {-7, 3}, {-21, 4}};
            for (int how = 0; how < 4; how++) {
                Check.due("join " + how, true, x.join(2, how, 0, 1));
                Check.due("double", 4, x.of(2, 0));
                int last = x.of(2, 1) - 1;
                Check.due("above " + how, due[how][0], x.convergent(2, last, false));
                Check.due("below " + how, due[how][1], x.convergent(2, last, true));
            }
            x.join(2, 0, 0, 1);
            x.fraction(0, 9, 1);
            Edges.terms("with another x", x, 2, 8, 3);
            x.fraction(1, 5, 1);
            Edges.terms("with another y", x, 2, 14);
            Check.due("how too small", false, x.join(2, -1, 0, 1));
            Check.due("how too large", false, x.join(2, 4, 0, 1));
        });
        doc.terms("What a ROW is made of has a lesser number than it.", () -> {
            TermRows x = new TermRows();
            for (int row = 0; row < 10; row++) {
                for (int from = 0; from < 10; from++) {
                    Check.due("single " + row + " of " + from, from < row, x.single(row, from, 1, 0, 0, 1));
                    Check.due("join " + row + " of " + from + " first", from < row, x.join(row, 0, from, Math.max(0, row - 1)));
                    Check.due("join " + row + " of " + from + " second", from < row, x.join(row, 0, Math.max(0, row - 1), from));
                }
            }
        });
    }

    private static void newObject(Sentences doc) {
        doc.promise(1, "All ROWS are 0 by 1.", () -> {
            TermRows x = new TermRows();
            for (int row = 0; row < 10; row++) {
                Edges.terms("row " + row, x, row, 0);
                Edges.stops("row " + row, x, row, Edges.ENDS, 0);
                Check.due("above", 0, x.convergent(row, 0, false));
                Check.due("below", 1, x.convergent(row, 0, true));
            }
            int[] counts = {0, 0, 0, 0, 0, 10, 0, 0};
            for (int what = 0; what < counts.length; what++) {
                Check.due("count " + what, counts[what], x.count(what));
            }
            Check.due("no fault", TermRows.NONE, x.fault());
            Check.due("nothing said", TermRows.NONE, x.said(0));
            Check.due("nothing to undo", TermRows.NONE, x.undo());
            x.fraction(3, 5, 1);
            Edges.terms("another object has its own rows", new TermRows(), 3, 0);
        });
    }

    private static void fraction(Sentences doc) {
        doc.promise(6, "An ACT: a ROW is a FRACTION: true;", () -> {
            TermRows x = new TermRows();
            Check.due("true", true, x.fraction(9, -9999, 9999));
            Check.due("an act", 1, x.count(0));
            Check.due("a fraction", 0, x.of(9, 0));
            Edges.terms("-1", x, 9, -1);
        });
        doc.promise(6, "false (nothing changes): no such ROW, p, q.", () -> {
            Edges.refusesRows("fraction", 0, (x, row) -> Edges.flag(x.fraction(row, 1, 1)));
            for (int p : new int[] {10000, -10000, LEAST, MOST}) {
                Edges.refused("fraction p " + p, 0, x -> Edges.flag(x.fraction(0, p, 1)));
            }
            for (int q : new int[] {0, -1, 10000, LEAST, MOST}) {
                Edges.refused("fraction q " + q, 0, x -> Edges.flag(x.fraction(0, 1, q)));
            }
        });
    }

    private static void root(Sentences doc) {
        doc.promise(7, "An ACT: a ROW is a ROOT: true;", () -> {
            TermRows x = new TermRows();
            Check.due("true", true, x.root(9, -999, 9999, -99) && x.root(0, 999, 0, 99));
            Check.due("acts", 2, x.count(0));
            Check.due("a root", 1, x.of(9, 0));
            Check.due("a root, though it ends", 1, x.of(0, 0));
        });
        doc.promise(7, "false (nothing changes): no such ROW, P, D, Q.", () -> {
            Edges.refusesRows("root", 0, (x, row) -> Edges.flag(x.root(row, 1, 2, 1)));
            for (int p : new int[] {1000, -1000, LEAST, MOST}) {
                Edges.refused("root P " + p, 0, x -> Edges.flag(x.root(0, p, 2, 1)));
            }
            for (int d : new int[] {-1, 10000, LEAST, MOST}) {
                Edges.refused("root D " + d, 0, x -> Edges.flag(x.root(0, 1, d, 1)));
            }
            for (int q : new int[] {0, 100, -100, LEAST, MOST}) {
                Edges.refused("root Q " + q, 0, x -> Edges.flag(x.root(0, 1, 2, q)));
            }
        });
    }

    private static void single(Sentences doc) {
        doc.promise(8, "An ACT: a ROW is SINGLE of ROW i: true;", () -> {
            TermRows x = new TermRows();
            Check.due("edges", true, x.single(9, 8, 999, -999, -999, 999) && x.single(1, 0, 0, 0, 0, -1) && x.single(2, 0, 0, 0, 1, 0));
            Check.due("acts", 3, x.count(0));
            Check.due("single", 3, x.of(9, 0));
            Edges.terms("-999 by 999", x, 9, -1);
        });
        doc.promise(8, "false (nothing changes): no such ROWS, i isn't less than row, a number beyond 999 in size, c and d are 0.", () -> {
            Edges.refusesRows("single", 0, (x, row) -> Edges.flag(x.single(row, 0, 1, 0, 0, 1)));
            Edges.refusesRows("single of", 0, (x, row) -> Edges.flag(x.single(9, row, 1, 0, 0, 1)));
            Edges.refused("single of itself", 0, x -> Edges.flag(x.single(9, 9, 1, 0, 0, 1)));
            Edges.refused("single of the next", 0, x -> Edges.flag(x.single(3, 4, 1, 0, 0, 1)));
            Edges.refused("single of row 0", 0, x -> Edges.flag(x.single(0, 0, 1, 0, 0, 1)));
            Edges.refused("c and d", 0, x -> Edges.flag(x.single(9, 0, 1, 1, 0, 0)));
            for (int n : new int[] {1000, -1000, LEAST, MOST}) {
                Edges.refused("a " + n, 0, x -> Edges.flag(x.single(9, 0, n, 0, 0, 1)));
                Edges.refused("b " + n, 0, x -> Edges.flag(x.single(9, 0, 1, n, 0, 1)));
                Edges.refused("c " + n, 0, x -> Edges.flag(x.single(9, 0, 1, 0, n, 1)));
                Edges.refused("d " + n, 0, x -> Edges.flag(x.single(9, 0, 1, 0, 1, n)));
            }
        });
    }

    private static void join(Sentences doc) {
        doc.promise(9, "An ACT: a ROW is DOUBLE of ROWS i and j: true;", () -> {
            TermRows x = new TermRows();
            Check.due("true", true, x.join(9, 0, 8, 8) && x.join(1, 3, 0, 0));
            Check.due("acts", 2, x.count(0));
            Check.due("double", 4, x.of(9, 0));
            Check.due("double", 4, x.of(1, 0));
        });
        doc.promise(9, "false (nothing changes): no such ROWS, how, i or j isn't less than row.", () -> {
            Edges.refusesRows("join", 0, (x, row) -> Edges.flag(x.join(row, 0, 0, 0)));
            Edges.refusesRows("join of first", 0, (x, row) -> Edges.flag(x.join(9, 0, row, 0)));
            Edges.refusesRows("join of second", 0, (x, row) -> Edges.flag(x.join(9, 0, 0, row)));
            for (int how : new int[] {-1, 4, LEAST, MOST}) {
                Edges.refused("how " + how, 0, x -> Edges.flag(x.join(9, how, 0, 0)));
            }
            Edges.refused("i is row", 0, x -> Edges.flag(x.join(5, 0, 5, 0)));
            Edges.refused("j is row", 0, x -> Edges.flag(x.join(5, 0, 0, 5)));
            Edges.refused("i is the next", 0, x -> Edges.flag(x.join(5, 0, 6, 0)));
            Edges.refused("j is the next", 0, x -> Edges.flag(x.join(5, 0, 0, 6)));
            Edges.refused("join of row 0", 0, x -> Edges.flag(x.join(0, 0, 0, 0)));
        });
    }

    private static void acts(Sentences doc) {
        doc.terms("ACTS: a ROW becomes another one (also the one that it was): the latest 16 can be UNDONE, the latest first.", () -> {
            TermRows same = new TermRows();
            Check.due("0 by 1 again", true, same.fraction(0, 0, 1));
            Check.due("is an act", 1, same.count(0));
            Check.due("that can be undone", 0, same.undo());
            for (int many : new int[] {15, 16, 17, 40}) {
                TermRows x = new TermRows();
                for (int i = 1; i <= many; i++) {
                    x.fraction(i % 3, i, 1);
                }
                Check.due("acts of " + many, Math.min(16, many), x.count(0));
                int kept = Math.min(16, many);
                for (int i = 1; i <= kept; i++) {
                    int back = many - i;
                    Check.due("undo " + i + " of " + many, kept - i, x.undo());
                    for (int row = 0; row < 3; row++) {
                        Check.due("row " + row + " behind it", latest(back, row), x.term(row, 0));
                    }
                }
                Check.due("no more of " + many, TermRows.NONE, x.undo());
                Check.due("row 0 stays", latest(many - kept, 0), x.term(0, 0));
            }
        });
    }

    /** The number that row was given latest when 1 to last were given to rows 1, 2, 0 by turns. */
    private static int latest(int last, int row) {
        for (int i = last; i > 0; i--) {
            if (i % 3 == row) {
                return i;
            }
        }
        return 0;
    }

    private static void undo(Sentences doc) {
        doc.promise(10, "The latest ACT is UNDONE: how many still can be;", () -> {
            TermRows x = new TermRows();
            x.root(0, 0, 2, 1);
            x.single(1, 0, 2, 0, 0, 1);
            x.join(2, 0, 0, 1);
            Check.tell(x, 0, "[5;(1)]");
            x.fraction(0, 9, 1);
            Edges.terms("9 and twice 9", x, 2, 27);
            Check.due("undo of fraction", 4, x.undo());
            Check.due("told again", 5, x.term(0, 0));
            Check.due("and what is made of it", 16, x.term(2, 0));
            Check.due("undo of told", 3, x.undo());
            Check.due("a root again", 1, x.of(0, 0));
            Check.due("and what is made of it", 4, x.term(2, 0));
            Check.due("undo of join", 2, x.undo());
            Edges.terms("0 by 1 again", x, 2, 0);
            Check.due("undo of single", 1, x.undo());
            Check.due("not made of it any more", 0, x.of(0, 6));
            Check.due("undo of root", 0, x.undo());
            Edges.terms("0 by 1 again", x, 0, 0);
            x.fraction(0, 3, 1);
            Check.due("an act behind undone ones", 1, x.count(0));
            Check.due("undo", 0, x.undo());
            Check.due("it isn't done again", TermRows.NONE, x.undo());
            Edges.terms("0 by 1 again", x, 0, 0);
        });
        doc.promise(10, "NONE: none can.", () -> {
            TermRows x = new TermRows();
            Check.due("at first", TermRows.NONE, x.undo());
            Check.due("no such fraction", false, x.fraction(0, 1, 0));
            Check.tell(x, 0, "[1;0]");
            Check.ask(x, 0, "many 1 = 1");
            x.would(0, 0, 1, 0, 0, 1);
            x.floor(0, 1);
            x.say(0, 1);
            Check.due("none of these was an act", TermRows.NONE, x.undo());
            Check.due("and none can be undone", 0, x.count(0));
            x.fraction(0, 1, 1);
            Check.due("one can", 0, x.undo());
            Check.due("then none", TermRows.NONE, x.undo());
            Edges.terms("nothing changes", x, 0, 0);
        });
    }
}
