/** How rows stop, and how SINGLE and DOUBLE are reckoned: "==== 2." of the document as far as it tells of that. */
final class ReckoningEdges {
    private static final String ROOT_OF_2 = "[1;(2)]";
    private static final String GOLDEN = "[1;(1)]";

    private ReckoningEdges() {
    }

    static void hold(Sentences doc) {
        cut(doc);
        singleReads(doc);
        singleIsSure(doc);
        singleEnds(doc);
        doubleReads(doc);
        doubleIsSure(doc);
        spent(doc);
        stuck(doc);
    }

    /** Row 9 is SINGLE a b c d of a told row. */
    private static TermRows singled(String text, int a, int b, int c, int d) {
        TermRows x = Edges.told(text);
        Check.due("single", true, x.single(9, 0, a, b, c, d));
        return x;
    }

    /** Row 9 is DOUBLE of two told rows. */
    private static TermRows joined(int how, String one, String two) {
        TermRows x = Edges.told(one);
        Check.due("told " + two, true, Check.tell(x, 1, two) > 0);
        Check.due("join", true, x.join(9, how, 0, 1));
        return x;
    }

    private static void read(TermRows x, int k, int first) {
        Check.due("read at term " + k, first, () -> x.read(9, k, false));
    }

    private static void read(TermRows x, int k, int first, int second) {
        read(x, k, first);
        Check.due("read of y at term " + k, second, () -> x.read(9, k, true));
    }

    private static void knownOf(TermRows x, int row, int known, int stop, int read) {
        Check.due("known", known, x.of(row, 1));
        Edges.stops("row " + row, x, row, stop, read);
    }

    private static void cut(Sentences doc) {
        doc.terms("==== 2. At most 60 TERMS of a ROW are known: it is CUT behind them (0), also if it would end there.", () -> {
            knownOf(Edges.told("[" + Edges.same(2, 59) + "]"), 0, 59, Edges.ENDS, 0);
            knownOf(Edges.told("[" + Edges.same(2, 60) + "]"), 0, 60, Edges.CUT, 0);
            knownOf(Edges.told("[" + Edges.same(2, 61) + "]"), 0, 60, Edges.CUT, 0);
            knownOf(Edges.told("[2;(2)]"), 0, 60, Edges.CUT, 0);
            TermRows root = new TermRows();
            root.root(0, 0, 2, 1);
            knownOf(root, 0, 60, Edges.CUT, 0);
            String ones = "[" + Edges.same(1, 57) + ",2]";
            String more = "[" + Edges.same(1, 58) + ",2]";
            knownOf(singled(ones, 0, 1, 1, 0), 9, 59, Edges.ENDS, 58);
            knownOf(singled(more, 0, 1, 1, 0), 9, 60, Edges.CUT, 59);
            knownOf(joined(3, "[1]", ones), 9, 59, Edges.ENDS, 59);
            knownOf(joined(3, "[1]", more), 9, 60, Edges.CUT, 60);
            Check.due("the 61st isn't known", Edges.NO_SUCH, () -> singled(more, 0, 1, 1, 0).term(9, 60));
        });
        doc.terms("Else it stops ahead: it ENDS (1), is SPENT (2), is STUCK (3).", () -> {
            knownOf(singled("[3]", 1, 0, 0, 1), 9, 1, 1, 1);
            knownOf(joined(2, ROOT_OF_2, ROOT_OF_2), 9, 0, 2, 41);
            knownOf(singled(ROOT_OF_2, 1, 0, 0, 1), 9, 59, 3, 60);
        });
    }

    private static void singleReads(Sentences doc) {
        doc.terms("SINGLE: it has four numbers, a b c d as told at first. Again and again: if it is SURE, it LETS OUT a TERM; else it READS one.", () -> {
            TermRows half = singled("[4;2,6,7]", 1, 0, 0, 2);
            Edges.terms("half of 415 by 93", half, 9, 2, 4, 3, 14);
            int[] reads = {1, 3, 3, 4};
            for (int k = 0; k < reads.length; k++) {
                read(half, k, reads[k]);
            }
            TermRows same = singled(ROOT_OF_2, 1, 0, 0, 1);
            for (int k = 0; k < 59; k++) {
                read(same, k, k + 2);
            }
        });
        doc.terms("READING TERM n of x: a, b, c, d become a n + b, a, c n + d, c.", () -> {
            // 7 2 1 0 may be 7 or 9, 16 7 2 1 may be 8 or 7, 39 16 5 2 is sure of 7.
            TermRows x = singled("[5;2,2,9]", 2, -3, 0, 1);
            Check.due("first", 7, x.term(9, 0));
            read(x, 0, 3);
            TermRows least = singled("[-9999;9999]", 999, 999, 0, 1);
            // 999 (-9999 and 1 by 9999) and 999: 999 by 9999 above -9988002.
            Edges.terms("the least term", least, 9, -9988002, 10, 111);
        });
        doc.terms("If x ENDS there: a, a, c, c (once; from then on it isn't READ any more).", () -> {
            TermRows x = singled("[3]", 2, 1, 0, 5);
            Edges.terms("7 by 5", x, 9, 1, 2, 2);
            for (int k = 0; k < 3; k++) {
                read(x, k, 1);
            }
            Edges.stops("the end counts as none", x, 9, Edges.ENDS, 1);
            TermRows last = singled("[2;1]", 1, 0, 0, 1);
            Edges.terms("a last 1 is reckoned away", last, 9, 3);
            read(last, 0, 2);
        });
    }

    private static void singleIsSure(Sentences doc) {
        doc.terms("SURE: once it has READ (or x ENDED):", () -> {
            TermRows x = singled("[1;2,3]", 0, 0, 0, 5);
            Edges.terms("0 by 5", x, 9, 0);
            read(x, 0, 1);
            TermRows none = Edges.empty();
            none.single(9, 1, 3, 4, 1, 0);
            Edges.terms("of a row without terms: 3 3 1 1", none, 9, 3);
            read(none, 0, 0);
            Edges.stops("of a row without terms", none, 9, Edges.ENDS, 0);
        });
        doc.terms("c and c + d aren't 0 and have one sign, a by c and a + b by c + d, both rounded down, are one number q", () -> {
            // With 0 above all quotients are 0: what is below alone makes it wait.
            TermRows zero = singled("[5;2,3]", 0, 0, 1, -5);
            read(zero, 0, 2);
            TermRows sum = singled("[5;2,3]", 0, 0, 1, -6);
            read(sum, 0, 2);
            TermRows signs = singled("[5;3,3]", 0, 0, 2, -11);
            read(signs, 0, 2);
            TermRows later = singled("[5;2,3]", 0, 0, 2, -11);
            read(later, 0, 3);
            TermRows positive = singled("[5;2,3]", 0, 0, 1, 1);
            read(positive, 0, 1);
            TermRows negative = singled("[5;2,3]", 0, 0, -1, -1);
            read(negative, 0, 1);
            TermRows down = singled("[4;2,6,7]", 1, 0, 0, -1);
            Edges.terms("-415 by 93", down, 9, -5, 1, 1, 6, 7);
            int[] reads = {2, 3, 3, 4, 4};
            for (int k = 0; k < reads.length; k++) {
                read(down, k, reads[k]);
            }
            TermRows up = singled("[4;2,6,7]", -1, 0, 0, 1);
            Edges.terms("-415 by 93 again", up, 9, -5, 1, 1, 6, 7);
        });
        doc.terms("(once x ENDED c isn't 0).", () -> {
            TermRows x = singled("[5]", 0, 0, 2, -11);
            Edges.terms("0 by -1", x, 9, 0);
            read(x, 0, 1);
            TermRows y = singled("[5]", 1, 0, 1, -6);
            Edges.terms("5 by -1", y, 9, -5);
        });
    }

    private static void singleEnds(Sentences doc) {
        doc.terms("LETTING OUT q: a, b, c, d become c, d, a - q c, b - q d.", () -> {
            TermRows x = singled("[0;3,7]", 0, 1, 1, 0);
            Edges.terms("22 by 7", x, 9, 3, 7);
            TermRows y = singled("[-3;1,2]", 0, 1, 1, 0);
            Edges.terms("-3 by 7", y, 9, -1, 1, 1, 3);
            TermRows z = singled("[2;3,4]", 0, 1, 1, 0);
            Edges.terms("13 by 30", z, 9, 0, 2, 3, 4);
        });
        doc.terms("It ENDS, once x ENDED and c is 0.", () -> {
            TermRows none = singled("[5]", 1, 0, 1, -5);
            Edges.terms("5 by 0", none, 9);
            Edges.stops("5 by 0", none, 9, Edges.ENDS, 1);
            TermRows whole = singled("[5]", 1, 0, 0, 1);
            Edges.terms("5", whole, 9, 5);
            Edges.stops("5", whole, 9, Edges.ENDS, 1);
            TermRows empty = Edges.empty();
            empty.single(9, 1, 1, 0, 0, 1);
            Edges.terms("a row without terms", empty, 9);
            Edges.stops("a row without terms", empty, 9, Edges.ENDS, 0);
            // c is 0 behind the first TERM, but x goes on: it READS as far as x is known.
            TermRows on = singled(GOLDEN, 0, 0, 0, 5);
            Edges.terms("0 by 5 of a row that goes on", on, 9, 0);
            Edges.stops("0 by 5 of a row that goes on", on, 9, Edges.STUCK, 60);
        });
    }

    private static void doubleReads(Sentences doc) {
        doc.terms("DOUBLE: eight numbers, of (a x y + b x + c y + d) by (e x y + f x + g y + h); at first of x + y: 0 1 1 0 by 0 0 0 1, "
            + "of x - y: 0 1 -1 0 by 0 0 0 1, of x y: 1 0 0 0 by 0 0 0 1, of x by y: 0 1 0 0 by 0 0 1 0.", () -> {
                int[][] want = {{2, 1, 5}, {4, 6}, {-3, 1, 2}, {-6, 1, 3}};
                for (int how = 0; how < 4; how++) {
                    TermRows x = joined(how, "[3;2]", "[-1;3]");
                    Edges.terms("7 by 2 and -2 by 3, " + how, x, 9, want[how]);
                    Edges.stops("7 by 2 and -2 by 3, " + how, x, 9, Edges.ENDS, 4);
                }
            });
        doc.terms("READING n of x: a, b, c, d become a n + c, b n + d, a, b, and e, f, g, h likewise; x ENDS: a, b, a, b likewise.", () -> {
            TermRows x = joined(0, ROOT_OF_2, "[3]");
            Check.due("first", 4, x.term(9, 0));
            for (int k = 0; k < 59; k++) {
                read(x, k, k + 2, 1);
            }
            TermRows ended = joined(0, "[3]", "[0;2]");
            Edges.terms("3 and a half", ended, 9, 3, 2);
            read(ended, 0, 1, 2);
            read(ended, 1, 1, 2);
        });
        doc.terms("READING n of y: a n + b, a, c n + d, c; y ENDS: a, a, c, c.", () -> {
            TermRows x = joined(0, "[3]", ROOT_OF_2);
            Check.due("first", 4, x.term(9, 0));
            for (int k = 0; k < 59; k++) {
                read(x, k, 1, k + 2);
            }
            TermRows ended = joined(0, "[0;2]", "[3]");
            Edges.terms("a half and 3", ended, 9, 3, 2);
            read(ended, 0, 2, 1);
            read(ended, 1, 2, 1);
        });
        doc.terms("It READS x and y by turns, x first (that one ENDS is a turn, too), one that ENDED no more.", () -> {
            // x is 1 .. 2, y is 1 .. 2; then x 1.33 .. 1.5, y 1.5 .. 2; then x 1.4 .. 1.428: 2.1 .. 2.857.
            TermRows x = joined(2, ROOT_OF_2, GOLDEN);
            Check.due("first", 2, x.term(9, 0));
            read(x, 0, 3, 2);
            // Behind x, which is 0, and one TERM of y the end of x makes it sure: no more of y is READ.
            TermRows zero = joined(2, "[0]", GOLDEN);
            Edges.terms("0", zero, 9, 0);
            read(zero, 0, 1, 1);
            Edges.stops("then y alone", zero, 9, Edges.STUCK, 61);
            TermRows other = joined(2, GOLDEN, "[0]");
            Edges.terms("0", other, 9, 0);
            read(other, 0, 2, 1);
            Edges.stops("then x alone", other, 9, Edges.STUCK, 61);
        });
    }

    private static void doubleIsSure(Sentences doc) {
        doc.terms("SURE: once both were READ (or ENDED): e, e + f, e + g, e + f + g + h aren't 0 and have one sign, a by e, a + b by e + f, "
            + "a + c by e + g, a + b + c + d by e + f + g + h, rounded down, are one number q.", () -> {
                TermRows none = Edges.empty();
                none.fraction(2, 5, 1);
                none.join(9, 3, 2, 1);
                Edges.terms("5 by a row without terms", none, 9, 0);
                read(none, 0, 1, 0);
                none.join(9, 3, 1, 2);
                Edges.terms("a row without terms by 5", none, 9);
                Edges.stops("a row without terms by 5", none, 9, Edges.ENDS, 1);
                none.join(9, 0, 1, 1);
                Edges.stops("two rows without terms", none, 9, Edges.ENDS, 0);
                // 0 by y: what is below alone makes it wait, 0 at first, then of both signs or 0.
                String[] below = {"[-1;2]", "[-1;1,3]", "[0;3]", "[-2;2]", "[1;2]"};
                int[] second = {2, 3, 2, 1, 1};
                for (int i = 0; i < below.length; i++) {
                    TermRows x = joined(3, "[0]", below[i]);
                    Edges.terms("0 by " + below[i], x, 9, 0);
                    read(x, 0, 1, second[i]);
                }
            });
        doc.terms("LETTING OUT q: e, f, g, h by a - q e, .., d - q h.", () -> {
            TermRows x = joined(3, ROOT_OF_2, GOLDEN);
            int[] want = {0, 1, 6, 1, 15, 3, 1, 2, 1, 5, 1, 4, 1, 2, 1, 1, 15};
            Edges.terms("the root of 2 by the golden number", x, 9, want);
            int[][] reads = {{3, 2}, {3, 2}, {8, 8}, {8, 8}, {11, 11}, {15, 15}};
            for (int k = 0; k < reads.length; k++) {
                read(x, k, reads[k][0], reads[k][1]);
            }
        });
        doc.terms("It ENDS, once both ENDED and e is 0.", () -> {
            TermRows nothing = joined(1, "[5]", "[5]");
            Edges.terms("5 less 5", nothing, 9, 0);
            Edges.stops("5 less 5", nothing, 9, Edges.ENDS, 2);
            TermRows by = joined(3, "[1]", "[0]");
            Edges.terms("1 by 0", by, 9);
            Edges.stops("1 by 0", by, 9, Edges.ENDS, 2);
            TermRows both = joined(3, "[0]", "[0]");
            Edges.terms("0 by 0", both, 9);
            Edges.stops("0 by 0", both, 9, Edges.ENDS, 2);
            TermRows one = joined(3, ROOT_OF_2, "[0]");
            Edges.terms("by 0, but x goes on", one, 9);
            Edges.stops("by 0, but x goes on", one, 9, Edges.SPENT, 41);
            TermRows last = joined(0, "[2;1]", "[0;1]");
            Edges.terms("last ones are reckoned away", last, 9, 4);
        });
    }

    private static void spent(Sentences doc) {
        doc.terms("Both are SPENT, if a number would be beyond 10 to the 15 in size, when it READS or LETS OUT,", () -> {
            TermRows x = Edges.fives();
            x.join(9, 3, 3, 3);
            Edges.terms("10 to the 15 by itself", x, 9, 1);
            Edges.stops("10 to the 15 by itself", x, 9, Edges.ENDS, 28);
            x.single(4, 3, -1, 0, 0, 1);
            x.join(9, 3, 4, 4);
            Edges.terms("-10 to the 15 by itself", x, 9, 1);
            TermRows beyond = joined(3, "[5;1,1,4,1,7,2,2,1,2,6,14,4,21]", "[5;1,1,4,1,7,2,2,1,2,6,14,4,21]");
            Edges.terms("10 to the 15 and 1 by itself", beyond, 9);
            Edges.stops("10 to the 15 and 1 by itself", beyond, 9, Edges.SPENT, 28);
            TermRows below = joined(3, "[-6;2,4,1,7,2,2,1,2,6,14,4,21]", "[-6;2,4,1,7,2,2,1,2,6,14,4,21]");
            Check.due("the same below 0: above", -74474543, below.convergent(0, 12, false));
            Check.due("the same below 0: below", 13427407, below.convergent(0, 12, true));
            Edges.stops("the same below 0", below, 9, Edges.SPENT, 26);
            eachNumberCounts();
            onlyTheNumbersCount();
        });
        doc.terms("or the TERM to be LET OUT beyond 10 to the 9", () -> {
            TermRows x = Edges.thousands();
            x.fraction(3, 1, 1);
            x.single(4, 2, -1, 0, 0, 1);
            Edges.terms("-10 to the 9", x, 4, -1000000000);
            x.single(9, 2, 1, 1, 0, 1);
            Edges.terms("10 to the 9 and 1", x, 9);
            Edges.stops("10 to the 9 and 1", x, 9, Edges.SPENT, 1);
            x.single(9, 2, -1, -1, 0, 1);
            Edges.stops("-10 to the 9 less 1", x, 9, Edges.SPENT, 1);
            x.join(9, 0, 2, 3);
            Edges.stops("10 to the 9 and 1 as a double", x, 9, Edges.SPENT, 2);
            x.join(9, 1, 4, 3);
            Edges.stops("-10 to the 9 less 1 as a double", x, 9, Edges.SPENT, 2);
            x.join(9, 2, 2, 3);
            Edges.terms("10 to the 9 as a double", x, 9, 1000000000);
            x.single(9, 2, 0, 1, 1, 0);
            Edges.terms("1 by 10 to the 9", x, 9, 0, 1000000000);
        });
        doc.terms("(it isn't LET OUT then; READ counts).", () -> {
            TermRows x = Edges.thousands();
            x.single(9, 2, 0, 1, 1, 1);
            Edges.terms("1 by 10 to the 9 and 1", x, 9, 0);
            Edges.stops("1 by 10 to the 9 and 1", x, 9, Edges.SPENT, 1);
            TermRows root = joined(2, ROOT_OF_2, ROOT_OF_2);
            Edges.terms("the root of 2 times itself", root, 9);
            Edges.stops("the 41st is beyond and counts", root, 9, Edges.SPENT, 41);
            // 5 times what is below CONVERGENTS of the root of 2: the 39th READ is beyond.
            TermRows one = singled(ROOT_OF_2, 0, 0, 0, 5);
            Edges.terms("0 by 5", one, 9, 0);
            Edges.stops("the 39th is beyond and counts", one, 9, Edges.SPENT, 39);
        });
    }

    /** One number alone is beyond, the others are far from it: b of x y, c of x y, and one that a long would wrap. */
    private static void eachNumberCounts() {
        TermRows x = Edges.greatAndGreat();
        Check.tell(x, 7, "[0;3,3]");
        x.join(9, 2, 6, 7);
        Edges.terms("b alone", x, 9);
        Edges.stops("b alone", x, 9, Edges.SPENT, 3);
        Check.tell(x, 7, "[-1;1,3]");
        x.join(9, 2, 7, 6);
        Edges.terms("c alone", x, 9);
        Edges.stops("c alone", x, 9, Edges.SPENT, 4);
        TermRows wraps = Edges.wrapping();
        Check.due("ahead of it", 0, wraps.would(9, 0, 0, 0, 1, 0));
        Check.due("what a long would wrap", TermRows.HIDDEN, wraps.would(9, 1, 0, 0, 1, 0));
    }

    /**
     * -x by y, where x is just above y: all numbers are below 10 to the 15, but -2 times what is below, which
     * LETTING OUT takes off, is not. What comes behind -2 and 1 is beyond 10 to the 9.
     */
    private static void onlyTheNumbersCount() {
        TermRows x = Edges.told("[0;" + Edges.same(1, 35) + ",2]");
        Check.tell(x, 1, "[0;" + Edges.same(1, 34) + ",2]");
        x.single(2, 0, -1, 0, 0, 1);
        x.join(9, 3, 2, 1);
        Edges.terms("-583600122205489 by 583600122205488", x, 9, -2, 1);
        Edges.stops("-583600122205489 by 583600122205488", x, 9, Edges.SPENT, 72);
    }

    private static void stuck(Sentences doc) {
        // No run of calls comes to 100, it seems: a SINGLE has 60 TERMS to READ at most, and what a DOUBLE has READ
        // of two rows multiplies its numbers at least as the golden number does, which is beyond ahead of 100.
        doc.terms("They are STUCK, if they have READ 100 TERMS since the latest one LET OUT (or the beginning), and neither are SURE nor END;", () -> {
            TermRows less = joined(1, GOLDEN, GOLDEN);
            Edges.terms("nothing, but it isn't sure", less, 9);
            Edges.stops("76 are no 100", less, 9, Edges.SPENT, 76);
            TermRows by = joined(3, GOLDEN, GOLDEN);
            Edges.stops("75 are no 100", by, 9, Edges.SPENT, 75);
            TermRows all = joined(2, GOLDEN, GOLDEN);
            Check.due("58 terms", 58, all.of(9, 1));
            Edges.stops("120, but not since the latest", all, 9, Edges.STUCK, 120);
        });
        doc.terms("or if they would have to READ what isn't known, since that ROW is CUT, SPENT, STUCK there.", () -> {
            TermRows x = singled(GOLDEN, 1, 0, 0, 1);
            knownOf(x, 9, 58, Edges.STUCK, 60);
            knownOf(singled("[" + Edges.same(2, 60) + "]", 1, 0, 0, 1), 9, 59, Edges.STUCK, 60);
            knownOf(joined(0, "[0]", GOLDEN), 9, 58, Edges.STUCK, 61);
            knownOf(joined(0, GOLDEN, "[0]"), 9, 58, Edges.STUCK, 61);
            TermRows spent = Edges.told(ROOT_OF_2);
            Check.tell(spent, 1, GOLDEN);
            spent.join(2, 0, 0, 1);
            knownOf(spent, 2, 12, Edges.SPENT, 79);
            spent.single(3, 2, 1, 0, 0, 1);
            knownOf(spent, 3, 10, Edges.STUCK, 12);
            spent.single(9, 3, 1, 0, 0, 1);
            Edges.stops("behind what is stuck", spent, 9, Edges.STUCK, 10);
            spent.join(9, 0, 2, 5);
            knownOf(spent, 9, 10, Edges.STUCK, 13);
            spent.join(9, 0, 5, 2);
            knownOf(spent, 9, 10, Edges.STUCK, 13);
            TermRows none = joined(2, ROOT_OF_2, ROOT_OF_2);
            none.join(2, 2, 0, 1);
            none.single(3, 2, 1, 0, 0, 1);
            knownOf(none, 3, 0, Edges.STUCK, 0);
            none.join(8, 0, 2, 5);
            knownOf(none, 8, 0, Edges.STUCK, 0);
            none.join(8, 0, 5, 3);
            knownOf(none, 8, 0, Edges.STUCK, 1);
        });
    }
}
