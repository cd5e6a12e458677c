/** What is asked of rows: CONVERGENT, less, AGAIN, TAILS ALIKE, the constants, and promises 11 to 27. */
final class AnswerEdges {
    private static final int LEAST = Integer.MIN_VALUE;
    private static final int MOST = Integer.MAX_VALUE;
    private static final String ROOT_OF_2 = "[1;(2)]";
    private static final String GOLDEN = "[1;(1)]";
    private static final long LIMIT = 1000000000000000L;
    // What comes behind 1, 1, 1 so that the number is just 10 to the 15, or 1 more, by something.
    private static final String ONES = "," + Edges.same(1, 30);
    private static final String WITHIN = "1,1,1" + ONES + ",2,30,2,3,12,1,1,1,1,1,10,1,63,1,3]";
    private static final String BEYOND = "1,1,1" + ONES + ",1,1,1,5,10,1,4,2,10,2,3,17,1,7,1,4]";

    private AnswerEdges() {
    }

    static void hold(Sentences doc) {
        constants(doc);
        counts(doc);
        facts(doc);
        termAndRead(doc);
        convergent(doc);
        nearest(doc);
        mediant(doc);
        compare(doc);
        alike(doc);
        again(doc);
        tails(doc);
        floor(doc);
        would(doc);
        oftenAndLeft(doc);
        say(doc);
        said(doc);
    }

    private static void refusesRows(String what, Edges.RowAsked call) {
        Edges.refusesRows(what, Edges.NO_SUCH, call);
    }

    private static void constants(Sentences doc) {
        doc.terms("The constants: `NONE = -1`: There is none.", () -> Check.due("NONE", -1, TermRows.NONE));
        doc.terms("`HIDDEN = -1000000000`: No number.", () -> Check.due("HIDDEN", -1000000000, TermRows.HIDDEN));
    }

    private static void counts(Sentences doc) {
        doc.promise(11, "0 ACTS that can be UNDONE, 1 bytes of the tape, 2 ROWS that are SINGLE, 3 DOUBLE, 4 that are CUT, 5 that END, "
            + "6 SPENT, 7 STUCK.", () -> {
                TermRows x = Edges.used();
                counted(x, 5, 20, 1, 1, 2, 6, 1, 1);
                for (int row = 0; row < 10; row++) {
                    x.root(row, 0, 2, 1);
                }
                x.feed(0, 0, 0, 0, 0);
                counted(x, 15, 40, 0, 0, 10, 0, 0, 0);
                for (int row = 1; row < 10; row++) {
                    x.join(row, 2, 0, 0);
                }
                counted(x, 16, 40, 0, 9, 1, 0, 9, 0);
                for (int row = 2; row < 10; row++) {
                    x.single(row, 1, 1, 0, 0, 1);
                }
                counted(x, 16, 40, 8, 1, 1, 0, 1, 8);
                for (int i = 0; i < 9; i++) {
                    x.feed(0, 0, 0, 0, 0);
                }
                counted(x, 16, 200, 8, 1, 1, 0, 1, 8);
            });
        doc.promise(11, "NoSuchElementException: another what.", () -> {
            for (int what : new int[] {-1, 8, LEAST, MOST}) {
                Edges.refused("count " + what, Edges.NO_SUCH, x -> x.count(what));
            }
        });
    }

    private static void counted(TermRows x, int... want) {
        for (int what = 0; what < want.length; what++) {
            Check.due("count " + what, want[what], x.count(what));
        }
    }

    private static void facts(Sentences doc) {
        doc.promise(12, "Of a ROW: 0 what it is (0 FRACTION, 1 ROOT, 2 TOLD, 3 SINGLE, 4 DOUBLE), 1 how many TERMS are known, "
            + "2 how it stops (0 to 3),", () -> {
                TermRows x = Edges.used();
                int[] kinds = {1, 0, 2, 3, 4, 0};
                int[] known = {60, 3, 60, 59, 0, 1};
                int[] stops = {0, 1, 0, 3, 2, 1};
                for (int row = 0; row < kinds.length; row++) {
                    Check.due("what row " + row + " is", kinds[row], x.of(row, 0));
                    Check.due("known of row " + row, known[row], x.of(row, 1));
                    Check.due("how row " + row + " stops", stops[row], x.of(row, 2));
                }
                Check.due("known of a row without terms", 0, Edges.empty().of(1, 1));
            });
        doc.promise(12, "3 how many TERMS it had READ when it stopped (of x, y together; 0 of others; the end of one counts as none),", () -> {
            TermRows x = Edges.used();
            int[] reads = {0, 0, 0, 60, 41};
            for (int row = 0; row < reads.length; row++) {
                Check.due("read by row " + row, reads[row], x.of(row, 3));
            }
            x.single(5, 1, 1, 0, 0, 1);
            Check.due("three and an end", 3, x.of(5, 3));
            x.join(5, 0, 1, 1);
            Check.due("three and an end, twice", 6, x.of(5, 3));
            x.fraction(5, 1, 2);
            Check.due("a fraction reads none", 0, x.of(5, 3));
        });
        doc.promise(12, "4 the greatest of its TERMS behind the first (0 without),", () -> {
            Check.due("behind the first", 6, Edges.told("[9;2,6,3]").of(0, 4));
            Check.due("the first but one", 6, Edges.told("[9;6]").of(0, 4));
            Check.due("the last", 7, Edges.told("[-9;6,7]").of(0, 4));
            Check.due("one alone", 0, Edges.told("[9]").of(0, 4));
            Check.due("no terms", 0, Edges.empty().of(1, 4));
            TermRows x = Edges.thousands();
            x.single(3, 2, 0, 1, 1, 0);
            Check.due("the greatest that can be", 1000000000, x.of(3, 4));
        });
        doc.promise(12, "5 the sum of all its TERMS (an int that wraps),", () -> {
            Check.due("sum", 15, Edges.told("[1;2,9,3]").of(0, 5));
            Check.due("below 0", -6, Edges.told("[-9;1,2]").of(0, 5));
            Check.due("no terms", 0, Edges.empty().of(1, 5));
            TermRows x = Edges.thousands();
            x.single(3, 2, 2, 1, 1, 0);
            x.single(4, 3, 0, 1, 1, 0);
            x.join(5, 0, 2, 4);
            Edges.terms("two great ones", x, 5, 1000000000, 2, 1000000000);
            Check.due("just within an int", 2000000002, x.of(5, 5));
            x.single(6, 5, 2, 1, 1, 0);
            x.single(7, 6, 0, 1, 1, 0);
            x.join(8, 0, 2, 7);
            Edges.terms("three great ones", x, 8, 1000000000, 2, 1000000000, 2, 1000000000);
            Check.due("3000000004 less 2 to the 32", -1294967292, x.of(8, 5));
            Check.due("a question's sum is as it is", 5, Check.ask(x, 8, "many sum > 9999"));
        });
        doc.promise(12, "6 how many ROWS are made of it (at once).", () -> {
            TermRows x = Edges.used();
            int[] made = {2, 0, 0, 0, 0};
            for (int row = 0; row < made.length; row++) {
                Check.due("made of row " + row, made[row], x.of(row, 6));
            }
            x.single(5, 3, 1, 0, 0, 1);
            Check.due("not of what it is made of is made of", 2, x.of(0, 6));
            Check.due("at once", 1, x.of(3, 6));
            x.join(6, 0, 3, 0);
            x.join(7, 0, 0, 3);
            Check.due("first or second", 4, x.of(0, 6));
            Check.due("first or second", 3, x.of(3, 6));
            x.fraction(7, 1, 1);
            Check.due("no more", 3, x.of(0, 6));
            TermRows all = new TermRows();
            for (int row = 1; row < 10; row++) {
                all.join(row, 0, 0, 0);
            }
            Check.due("all others", 9, all.of(0, 6));
            Check.due("none can be made of the last", 0, all.of(9, 6));
        });
        doc.promise(12, "NoSuchElementException: no such ROW, another what.", () -> {
            refusesRows("of", (x, row) -> x.of(row, 0));
            for (int what : new int[] {-1, 7, LEAST, MOST}) {
                Edges.refused("of " + what, Edges.NO_SUCH, x -> x.of(0, what));
            }
        });
    }

    private static void termAndRead(Sentences doc) {
        doc.promise(13, "TERM k of a ROW.", () -> {
            TermRows x = Edges.used();
            Check.due("the first", -3, x.term(1, 0));
            Check.due("the last", 2, x.term(1, 2));
            Check.due("the 60th", 4, x.term(2, 59));
        });
        doc.promise(13, "NoSuchElementException: no such ROW, it isn't known.", () -> {
            refusesRows("term", (x, row) -> x.term(row, 0));
            for (int k : new int[] {-1, 3, LEAST, MOST}) {
                Edges.refused("term " + k, Edges.NO_SUCH, x -> x.term(1, k));
            }
            Edges.refused("the 61st", Edges.NO_SUCH, x -> x.term(0, 60));
            Edges.refused("behind a stuck row", Edges.NO_SUCH, x -> x.term(3, 59));
            Edges.refused("of a row without terms", Edges.NO_SUCH, x -> x.term(4, 0));
        });
        doc.promise(14, "How many TERMS of a ROW had been READ of ROW x (second false), y (true), when it had LET OUT TERM k.", () -> {
            TermRows x = Edges.used();
            Check.due("the first", 2, x.read(3, 0, false));
            Check.due("the last", 60, x.read(3, 58, false));
            x.join(5, 0, 1, 0);
            Check.due("x has ended", 3, x.read(5, x.of(5, 1) - 1, false));
            Check.due("y goes on", 59, x.read(5, x.of(5, 1) - 1, true));
            Check.due("what is READ behind the last isn't of it", 63, x.of(5, 3));
        });
        doc.promise(14, "NoSuchElementException: no such ROW, it is no SINGLE, DOUBLE (of y: no DOUBLE), TERM k isn't known.", () -> {
            refusesRows("read", (x, row) -> x.read(row, 0, false));
            for (int row = 0; row < 3; row++) {
                int made = row;
                Edges.refused("no single, double: " + row, Edges.NO_SUCH, x -> x.read(made, 0, false));
                Edges.refused("no double: " + row, Edges.NO_SUCH, x -> x.read(made, 0, true));
            }
            Edges.refused("y of a single", Edges.NO_SUCH, x -> x.read(3, 0, true));
            for (int k : new int[] {-1, 59, LEAST, MOST}) {
                Edges.refused("term " + k, Edges.NO_SUCH, x -> x.read(3, k, false));
            }
            Edges.refused("of a double without terms", Edges.NO_SUCH, x -> x.read(4, 0, false));
            Edges.refused("of a double without terms", Edges.NO_SUCH, x -> x.read(4, 0, true));
        });
    }

    private static int last(TermRows x) {
        return x.of(0, 1) - 1;
    }

    private static void convergent(Sentences doc) {
        doc.terms("CONVERGENT k: the fraction of TERMS 0 to k alone: above and below by above of k times TERM and above of k - 1, "
            + "ahead of the first 1 by 0, ahead of that 0 by 1", () -> {
                TermRows x = Edges.told("[-4;2,6,7]");
                long[][] want = {{-4, 1}, {-7, 2}, {-46, 13}, {-329, 93}};
                for (int k = 0; k < want.length; k++) {
                    Check.due("above " + k, want[k][0], x.convergent(0, k, false));
                    Check.due("below " + k, want[k][1], x.convergent(0, k, true));
                }
                TermRows zero = new TermRows();
                Check.due("0", 0, zero.convergent(0, 0, false));
                Check.due("by 1", 1, zero.convergent(0, 0, true));
            });
        doc.terms("(NONE, if a number of it, or of one ahead, is beyond 10 to the 15).", () -> {
            TermRows within = Edges.told("[" + WITHIN);
            Check.due("above 10 to the 15", LIMIT, within.convergent(0, last(within), false));
            TermRows negative = Edges.told("[-2;2" + WITHIN.substring(5));
            Check.due("above -10 to the 15", -LIMIT, negative.convergent(0, last(negative), false));
            TermRows below = Edges.told("[0;" + WITHIN);
            Check.due("below 10 to the 15", LIMIT, below.convergent(0, last(below), true));
            for (String text : new String[] {"[" + BEYOND, "[-2;2" + BEYOND.substring(5), "[0;" + BEYOND}) {
                TermRows x = Edges.told(text);
                Check.due("above of " + text, TermRows.NONE, x.convergent(0, last(x), false));
                Check.due("below of " + text, TermRows.NONE, x.convergent(0, last(x), true));
                Check.due("ahead of it", true, x.convergent(0, last(x) - 1, true) > 1);
            }
            TermRows on = Edges.told("[" + BEYOND.replace("]", ",(1)]"));
            Check.due("of those behind it", TermRows.NONE, on.convergent(0, 51, false));
            Check.due("of those behind it", TermRows.NONE, on.convergent(0, 59, true));
            TermRows wraps = Edges.wrapping();
            Check.due("within", 999923000001L, wraps.convergent(9, 1, false));
            Check.due("what a long would wrap", TermRows.NONE, wraps.convergent(9, 2, false));
            Check.due("what a long would wrap", TermRows.NONE, wraps.convergent(9, 2, true));
            TermRows far = Edges.told("[9999;(9999)]");
            Check.due("within", 999700049997L, far.convergent(0, 2, false));
            Check.due("beyond", TermRows.NONE, far.convergent(0, 3, false));
            Check.due("far beyond", TermRows.NONE, far.convergent(0, 59, false));
        });
        doc.promise(15, "CONVERGENT k: above, below (lower); NONE: beyond.", () -> {
            TermRows x = Edges.told(GOLDEN);
            Check.due("above", 2504730781961L, x.convergent(0, 59, false));
            Check.due("below", 1548008755920L, x.convergent(0, 59, true));
            TermRows minus = Edges.told("[-1]");
            Check.due("-1 as a number", -1, minus.convergent(0, 0, false));
            Check.due("by 1", 1, minus.convergent(0, 0, true));
            Check.due("beyond", TermRows.NONE, Edges.told("[1;(9)]").convergent(0, 59, true));
        });
        doc.promise(15, "NoSuchElementException: no such ROW, TERM k isn't known.", () -> {
            refusesRows("convergent", (x, row) -> x.convergent(row, 0, false));
            for (int k : new int[] {-1, -2, 3, LEAST, MOST}) {
                Edges.refused("convergent " + k, Edges.NO_SUCH, x -> x.convergent(1, k, true));
            }
            Edges.refused("the 61st", Edges.NO_SUCH, x -> x.convergent(0, 60, true));
            Edges.refused("without terms", Edges.NO_SUCH, x -> x.convergent(4, 0, true));
        });
    }

    private static void nearest(Sentences doc) {
        doc.promise(16, "The greatest k of which the CONVERGENT has a lower number of most at most.", () -> {
            TermRows x = Edges.told("[4;2,6,7]");
            int[][] want = {{1, 0}, {2, 1}, {12, 1}, {13, 2}, {92, 2}, {93, 3}, {94, 3}, {MOST, 3}};
            for (int[] pair : want) {
                Check.due("at most " + pair[0], pair[1], x.nearest(0, pair[0]));
            }
            Check.due("two with 1", 1, Edges.told("[4;1,6]").nearest(0, 1));
            Check.due("one alone", 0, Edges.told("[4]").nearest(0, MOST));
            // Below of a golden row: 1836311903 at 45, 2971215073 at 46.
            Check.due("the most that an int holds", 45, Edges.told(GOLDEN).nearest(0, MOST));
            Check.due("just reached", 45, Edges.told(GOLDEN).nearest(0, 1836311903));
            Check.due("just not reached", 44, Edges.told(GOLDEN).nearest(0, 1836311902));
            TermRows great = Edges.thousands();
            great.single(3, 2, 2, 1, 1, 0);
            great.single(4, 3, 0, 1, 1, 0);
            great.join(5, 0, 2, 4);
            Check.due("one that is beyond above has none below", 1, great.nearest(5, MOST));
        });
        doc.promise(16, "NoSuchElementException: no such ROW, it has no TERMS.", () -> {
            refusesRows("nearest", (x, row) -> x.nearest(row, 1));
            Edges.refused("no terms", Edges.NO_SUCH, x -> x.nearest(4, 1));
        });
        doc.promise(16, "IllegalArgumentException (behind that): most is below 1.", () -> {
            for (int most : new int[] {0, -1, LEAST}) {
                Edges.refused("most " + most, Edges.ILLEGAL, x -> x.nearest(1, most));
                Edges.refused("no row and most " + most, Edges.NO_SUCH, x -> x.nearest(10, most));
                Edges.refused("no terms and most " + most, Edges.NO_SUCH, x -> x.nearest(4, most));
            }
        });
    }

    private static void mediant(Sentences doc) {
        doc.promise(17, "MEDIANT: of CONVERGENT k and m times that behind it (m 0 on, at most TERM k + 2 then): above of the first and m times "
            + "above of the second, below likewise (lower).", () -> {
                TermRows x = Edges.told("[-4;2,6,7]");
                for (int m = 0; m <= 6; m++) {
                    Check.due("above " + m, -4 - 7 * m, x.mediant(0, 0, m, false));
                    Check.due("below " + m, 1 + 2 * m, x.mediant(0, 0, m, true));
                }
                Check.due("m 0: the first", -7, x.mediant(0, 1, 0, false));
                Check.due("the most: the next but one", -329, x.mediant(0, 1, 7, false));
                Check.due("the most: the next but one", 93, x.mediant(0, 1, 7, true));
                Check.due("of the last that has one", 2504730781961L, Edges.told(GOLDEN).mediant(0, 57, 1, false));
            });
        doc.promise(17, "NONE: beyond.", () -> {
            TermRows within = Edges.told("[" + WITHIN);
            Check.due("10 to the 15", LIMIT, within.mediant(0, last(within) - 2, 3, false));
            TermRows below = Edges.told("[0;" + WITHIN);
            Check.due("below 10 to the 15", LIMIT, below.mediant(0, last(below) - 2, 3, true));
            TermRows x = Edges.told("[" + BEYOND);
            Check.due("within with 3", true, x.mediant(0, last(x) - 2, 3, false) > 1);
            Check.due("beyond with 4", TermRows.NONE, x.mediant(0, last(x) - 2, 4, false));
            Check.due("nor has it a lower one", TermRows.NONE, x.mediant(0, last(x) - 2, 4, true));
            TermRows far = Edges.told("[9999;(9999)]");
            Check.due("far beyond", TermRows.NONE, far.mediant(0, 57, 9999, false));
            Check.due("the second is beyond", TermRows.NONE, far.mediant(0, 2, 1, true));
        });
        doc.promise(17, "NoSuchElementException: no such ROW, TERM k + 2 isn't known, no such m.", () -> {
            refusesRows("mediant", (x, row) -> x.mediant(row, 0, 0, false));
            Check.due("TERM 2 is known", -3, Edges.used().mediant(1, 0, 0, false));
            for (int k : new int[] {1, -1, -2, -3, LEAST, MOST, MOST - 1, MOST - 2}) {
                Edges.refused("mediant " + k, Edges.NO_SUCH, x -> x.mediant(1, k, 0, false));
            }
            for (int m : new int[] {-1, 3, LEAST, MOST}) {
                Edges.refused("mediant with " + m, Edges.NO_SUCH, x -> x.mediant(1, 0, m, false));
            }
            Edges.refused("behind the 60th", Edges.NO_SUCH, x -> x.mediant(0, 58, 0, false));
            Edges.refused("without terms", Edges.NO_SUCH, x -> x.mediant(4, 0, 0, false));
        });
    }

    /** Rows 0 and 1 are told so; compared both ways. */
    private static void compared(String one, String two, int want, int alike) {
        TermRows x = Edges.told(one);
        Check.tell(x, 1, two);
        Check.due("compare " + one + " " + two, want, x.compare(0, 1));
        Check.due("compare " + two + " " + one, want == -2 ? -2 : -want, x.compare(1, 0));
        Check.due("alike " + one + " " + two, alike, x.alike(0, 1));
        Check.due("alike " + two + " " + one, alike, x.alike(1, 0));
    }

    private static void compare(Sentences doc) {
        doc.terms("VALUE less: rows compared by TERMS: at the first that differ the ROW whose TERM is less is less, if its place is even, "
            + "else greater;", () -> {
                compared("[1]", "[2]", -1, 0);
                compared("[-2]", "[-1]", -1, 0);
                compared("[1;2]", "[1;3]", 1, 1);
                compared("[1;2,3]", "[1;2,4]", -1, 2);
                compared("[1;2,3,(4)]", "[1;2,3,(5)]", 1, 3);
                compared("[" + Edges.same(1, 59) + ",2]", "[" + Edges.same(1, 59) + ",3]", 1, 59);
                compared("[" + Edges.same(1, 58) + ",2]", "[" + Edges.same(1, 58) + ",3]", -1, 58);
            });
        doc.terms("one that ENDS there counts as if its TERM there were greater than any.", () -> {
            compared("[1]", "[1;9999]", -1, 1);
            compared("[1;2]", "[1;2,9999]", 1, 2);
            compared("[1;2,3]", "[1;2,3,4]", -1, 3);
            compared("[1]", "[1;(1)]", -1, 1);
            compared("[" + Edges.same(1, 59) + "]", "[1;(1)]", -1, 59);
            TermRows none = Edges.empty();
            Check.due("without terms is greater", 1, none.compare(1, 0));
            Check.due("than all", -1, none.compare(0, 1));
        });
        doc.terms("(So 2, 1 by 1 .. and 3 aren't like here, as TERMS tell.)", () -> {
            compared("[2;1]", "[3]", -1, 0);
            compared("[1;2,1]", "[1;3]", 1, 1);
            TermRows x = Edges.told("[2;1]");
            x.fraction(1, 3, 1);
            Check.due("alike", 0, x.alike(0, 1));
        });
        doc.promise(18, "-1 if the first ROW is less by TERMS, 1 if it is greater, 0 if they have the same TERMS and both END;", () -> {
            compared("[1;2,3]", "[1;2,3]", 0, 3);
            TermRows x = Edges.told("[4;2,6,7]");
            x.fraction(1, 415, 93);
            Check.due("rows of other kinds", 0, x.compare(0, 1));
            Check.due("with itself", 0, x.compare(0, 0));
            x.fraction(1, 415, 92);
            Check.due("less", -1, x.compare(0, 1));
            Check.due("greater", 1, x.compare(1, 0));
            TermRows none = Edges.empty();
            Check.due("two without terms", 0, none.compare(1, 1));
        });
        doc.promise(18, "-2: as far as one is known they are alike.", () -> {
            compared(ROOT_OF_2, ROOT_OF_2, -2, 60);
            compared("[" + Edges.same(2, 60) + "]", "[" + Edges.same(2, 61) + "]", -2, 60);
            TermRows x = Edges.told(GOLDEN);
            x.single(1, 0, 1, 0, 0, 1);
            Check.due("the second isn't known at 58", -2, x.compare(0, 1));
            Check.due("the first isn't known at 58", -2, x.compare(1, 0));
            Check.tell(x, 2, "[" + Edges.same(1, 58) + "]");
            Check.due("the other ends there", -2, x.compare(1, 2));
            Check.due("the other ends there", -2, x.compare(2, 1));
            Check.tell(x, 2, "[" + Edges.same(1, 57) + "]");
            Check.due("the other ends ahead, at an odd place", 1, x.compare(1, 2));
            TermRows spent = Edges.used();
            Check.due("nothing is known of it", -2, spent.compare(4, 0));
            Check.due("nothing is known of it", -2, spent.compare(1, 4));
            Check.due("of both", -2, spent.compare(4, 4));
        });
        doc.promise(18, "NoSuchElementException: no such ROWS.", () -> {
            refusesRows("compare", (x, row) -> x.compare(row, 0));
            refusesRows("compare with", (x, row) -> x.compare(0, row));
            refusesRows("compare both", (x, row) -> x.compare(row, row));
        });
    }

    private static void alike(Sentences doc) {
        doc.promise(19, "At how many places ahead of where they first differ (or one isn't known any more) two ROWS have the same TERMS.", () -> {
            compared("[1;2,3,4]", "[1;2,4,4]", -1, 2);
            compared("[1;2]", "[3;2]", -1, 0);
            TermRows x = Edges.used();
            Check.due("one row without terms", 0, x.alike(4, 0));
            Check.due("with itself", 0, x.alike(4, 4));
            Check.due("with itself", 60, x.alike(0, 0));
            Check.due("with itself", 59, x.alike(3, 3));
            Check.due("one ends", 3, x.alike(1, 1));
            x.single(5, 0, 1, 0, 0, 1);
            Check.due("one is stuck", 59, x.alike(0, 5));
            Check.due("one is stuck", 59, x.alike(5, 0));
        });
        doc.promise(19, "NoSuchElementException: no such ROWS.", () -> {
            refusesRows("alike", (x, row) -> x.alike(row, 0));
            refusesRows("alike with", (x, row) -> x.alike(0, row));
        });
    }

    private static void comesAgain(String text, int t, int d) {
        TermRows x = Edges.told(text);
        Check.due("t of " + text, t, x.again(0, 0));
        Check.due("d of " + text, d, x.again(0, 1));
    }

    private static void again(Sentences doc) {
        doc.terms("AGAIN of a CUT ROW: the least t, for it the least d (1 on) so that all TERMS known from t on are as those d ahead of them, "
            + "t and twice d 60 at most; none.", () -> {
                comesAgain(GOLDEN, 0, 1);
                comesAgain(ROOT_OF_2, 1, 1);
                comesAgain("[1;2,(3,4)]", 2, 2);
                comesAgain("[1;(2,2)]", 1, 1);
                comesAgain("[2;(1,2)]", 0, 2);
                comesAgain("[4;2,(3,4)]", 2, 2);
                comesAgain("[3;(1,1,2,1,1,2,1,1,3)]", 0, 9);
                // t and twice d: 0 and 60, 1 and 58, 2 and 58; 1 and 60 are too many.
                comesAgain("[30;(" + Edges.rising(1, 30) + ")]", 0, 30);
                comesAgain("[0;(" + Edges.rising(1, 29) + ")]", 1, 29);
                comesAgain("[0;50,(" + Edges.rising(1, 29) + ")]", 2, 29);
                comesAgain("[0;(" + Edges.rising(1, 30) + ")]", -1, -1);
                comesAgain("[0;50,51,(" + Edges.rising(1, 29) + ")]", -1, -1);
                comesAgain("[31;(" + Edges.rising(1, 31) + ")]", -1, -1);
                // 58 and twice 1, for want of anything longer; 57 and twice 1; nothing at all.
                comesAgain("[0;" + Edges.rising(1, 57) + ",99,99]", 58, 1);
                comesAgain("[0;" + Edges.rising(1, 56) + ",99,99,99]", 57, 1);
                comesAgain("[0;" + Edges.rising(1, 55) + ",98,99,98,99]", 56, 2);
                comesAgain("[0;" + Edges.rising(1, 56) + ",98,99,98]", -1, -1);
                comesAgain("[0;" + Edges.rising(1, 59) + "]", -1, -1);
            });
        doc.promise(20, "AGAIN: t (what 0), d (1); NONE: none, it isn't CUT.", () -> {
            comesAgain("[9;8,(7,6,5)]", 2, 3);
            comesAgain("[" + Edges.same(1, 59) + "]", -1, -1);
            comesAgain("[" + Edges.same(1, 60) + "]", 0, 1);
            TermRows x = Edges.used();
            for (int row : new int[] {1, 3, 4, 5}) {
                Check.due("t of row " + row, TermRows.NONE, x.again(row, 0));
                Check.due("d of row " + row, TermRows.NONE, x.again(row, 1));
            }
        });
        doc.promise(20, "NoSuchElementException: no such ROW, another what.", () -> {
            refusesRows("again", (x, row) -> x.again(row, 0));
            for (int what : new int[] {-1, 2, LEAST, MOST}) {
                Edges.refused("again " + what, Edges.NO_SUCH, x -> x.again(0, what));
                Edges.refused("again of what isn't cut " + what, Edges.NO_SUCH, x -> x.again(1, what));
            }
        });
    }

    private static void tailed(String one, String two, int k, int l) {
        TermRows x = Edges.told(one);
        Check.tell(x, 1, two);
        Check.due("k of " + one + " " + two, k, x.tails(0, 1, 0));
        Check.due("l of " + one + " " + two, l, x.tails(0, 1, 1));
    }

    private static void tails(Sentences doc) {
        doc.terms("TAILS ALIKE of two CUT ROWS: the least k and l together, of like ones the least k, so that TERMS from k on of the first are as "
            + "those from l on of the other, as far as both are known, 20 at least; none.", () -> {
                tailed(ROOT_OF_2, "[2;(2)]", 1, 0);
                tailed("[2;(2)]", ROOT_OF_2, 0, 1);
                tailed(ROOT_OF_2, ROOT_OF_2, 0, 0);
                tailed("[9;8,7,(1,2)]", "[5;(2,1)]", 3, 2);
                // 1 and 2, 2 and 1 come to as much together: the least k is taken.
                tailed("[8;(1,2)]", "[9;(2,1)]", 1, 2);
                tailed("[1;(2,1)]", "[2;(1,2)]", 0, 1);
                // 40 ahead leave 20, 41 leave 19.
                tailed("[1;" + Edges.rising(1, 39) + ",(50)]", "[49;(50)]", 40, 1);
                tailed("[49;(50)]", "[1;" + Edges.rising(1, 39) + ",(50)]", 1, 40);
                tailed("[1;" + Edges.rising(1, 40) + ",(51)]", "[49;(51)]", -1, -1);
                tailed("[49;(51)]", "[1;" + Edges.rising(1, 40) + ",(51)]", -1, -1);
                tailed("[1;" + Edges.rising(1, 39) + ",(50)]", "[2;" + Edges.rising(51, 39) + ",(50)]", 40, 40);
                tailed("[1;" + Edges.rising(1, 40) + ",(50)]", "[2;" + Edges.rising(52, 39) + ",(50)]", -1, -1);
                tailed(ROOT_OF_2, GOLDEN, -1, -1);
                // Alike from 40 on of the first and 0 on of the other, where 20 of each are known.
                tailed("[1;" + Edges.rising(21, 39) + "," + Edges.rising(1, 19) + ",20]", "[1;" + Edges.rising(2, 18) + ",20," + Edges.same(9, 40) + "]", 40, 0);
                tailed("[1;" + Edges.rising(21, 40) + "," + Edges.rising(1, 19) + "]", "[1;" + Edges.rising(2, 18) + "," + Edges.same(9, 41) + "]", -1, -1);
            });
        doc.promise(21, "TAILS ALIKE: k (what 0), l (1); NONE: none, one isn't CUT.", () -> {
            tailed("[" + Edges.same(1, 59) + "]", GOLDEN, -1, -1);
            tailed(GOLDEN, "[" + Edges.same(1, 59) + "]", -1, -1);
            tailed("[" + Edges.same(1, 60) + "]", GOLDEN, 0, 0);
            TermRows x = Edges.used();
            for (int row : new int[] {1, 3, 4, 5}) {
                Check.due("one isn't cut", TermRows.NONE, x.tails(0, row, 0));
                Check.due("one isn't cut", TermRows.NONE, x.tails(row, 0, 1));
                Check.due("none is cut", TermRows.NONE, x.tails(row, row, 0));
            }
        });
        doc.promise(21, "NoSuchElementException: no such ROWS, another what.", () -> {
            refusesRows("tails", (x, row) -> x.tails(row, 0, 0));
            refusesRows("tails with", (x, row) -> x.tails(0, row, 0));
            for (int what : new int[] {-1, 2, LEAST, MOST}) {
                Edges.refused("tails " + what, Edges.NO_SUCH, x -> x.tails(0, 2, what));
                Edges.refused("tails of what isn't cut " + what, Edges.NO_SUCH, x -> x.tails(1, 1, what));
            }
        });
    }

    private static void floor(Sentences doc) {
        doc.promise(22, "The first TERM of SINGLE n 0 0 1 of a ROW (n times it, rounded down).", () -> {
            TermRows x = Edges.used();
            Check.due("the root of 2", 1, x.floor(0, 1));
            Check.due("the root of 2, 9999 times", 14140, x.floor(0, 9999));
            Check.due("-7 by 3", -3, x.floor(1, 1));
            Check.due("-7", -7, x.floor(1, 3));
            Check.due("-7 by 3, 9999 times", -23331, x.floor(1, 9999));
            Check.due("0", 0, x.floor(9, 9999));
            Check.due("no act", 5, x.count(0));
            TermRows great = Edges.thousands();
            Check.due("10 to the 9", 1000000000, great.floor(2, 1));
            Check.due("999 times 10 to the 6", 999000000, great.floor(1, 999));
            Check.due("1000 times 10 to the 6", 1000000000, great.floor(1, 1000));
        });
        doc.promise(22, "HIDDEN: it has none (it ENDS, is SPENT, STUCK ahead).", () -> {
            Check.due("of a row without terms it ends", TermRows.HIDDEN, Edges.empty().floor(1, 1));
            TermRows x = Edges.used();
            Check.due("of a spent row it is stuck", TermRows.HIDDEN, x.floor(4, 1));
            x.single(5, 4, 1, 0, 0, 1);
            Check.due("of a stuck row it is stuck", TermRows.HIDDEN, x.floor(5, 1));
            TermRows great = Edges.thousands();
            Check.due("2 times 10 to the 9 is spent", TermRows.HIDDEN, great.floor(2, 2));
            Check.due("1001 times 10 to the 6 is spent", TermRows.HIDDEN, great.floor(1, 1001));
            great.single(3, 2, -1, 0, 0, 1);
            Check.due("-10 to the 9 is HIDDEN, too", TermRows.HIDDEN, great.floor(3, 1));
            TermRows bare = Edges.told(ROOT_OF_2);
            bare.single(9, 0, 0, 0, 0, 5);
            Edges.terms("0, and nothing is known behind it", bare, 9, 0);
            Check.due("3 times it is stuck, since it may be 0 to 3", TermRows.HIDDEN, bare.floor(9, 3));
        });
        doc.promise(22, "NoSuchElementException: no such ROW.", () -> refusesRows("floor", (x, row) -> x.floor(row, 1)));
        doc.promise(22, "IllegalArgumentException (behind that): n isn't 1 to 9999.", () -> {
            for (int n : new int[] {0, -1, 10000, LEAST, MOST}) {
                Edges.refused("n " + n, Edges.ILLEGAL, x -> x.floor(0, n));
                Edges.refused("no row and n " + n, Edges.NO_SUCH, x -> x.floor(10, n));
            }
        });
    }

    private static void would(Sentences doc) {
        doc.promise(23, "The k-th TERM of SINGLE a b c d of a ROW (asked alone; at most 60).", () -> {
            TermRows x = Edges.used();
            int[] due = {-8, 1, 1, 4};
            for (int k = 0; k < due.length; k++) {
                Check.due("-67 by 9", due[k], x.would(1, k, 10, 1, 0, 3));
            }
            Check.due("the 60th", 2, x.would(0, 59, 0, 1, 1, 0));
            Check.due("the edges", -1, x.would(9, 0, 999, -999, -999, 999));
            x.root(9, 0, 2, 1);
            Check.due("of the last row", 1, x.would(9, 0, 1, 0, 0, 1));
            Check.due("no act but that", 6, x.count(0));
        });
        doc.promise(23, "HIDDEN: it has none.", () -> {
            TermRows x = Edges.used();
            Check.due("it ends ahead", TermRows.HIDDEN, x.would(1, 3, 1, 0, 0, 1));
            Check.due("its last", 2, x.would(1, 2, 1, 0, 0, 1));
            Check.due("it ends at once", TermRows.HIDDEN, x.would(9, 0, 1, 0, 1, 0));
            Check.due("it is stuck ahead", TermRows.HIDDEN, x.would(0, 59, 1, 0, 0, 1));
            Check.due("its last", 2, x.would(0, 58, 1, 0, 0, 1));
            Check.due("it is stuck at once", TermRows.HIDDEN, x.would(4, 0, 1, 0, 0, 1));
            TermRows great = Edges.thousands();
            Check.due("it is spent at once", TermRows.HIDDEN, great.would(2, 0, 1, 1, 0, 1));
            Check.due("it is spent ahead", TermRows.HIDDEN, great.would(2, 1, 0, 1, 1, 1));
            Check.due("its last", 0, great.would(2, 0, 0, 1, 1, 1));
        });
        doc.promise(23, "NoSuchElementException: no such ROW, k isn't 0 to 59.", () -> {
            refusesRows("would", (x, row) -> x.would(row, 0, 1, 0, 0, 1));
            for (int k : new int[] {-1, 60, LEAST, MOST}) {
                Edges.refused("would " + k, Edges.NO_SUCH, x -> x.would(0, k, 1, 0, 0, 1));
            }
        });
        doc.promise(23, "IllegalArgumentException (behind that): a number as in single().", () -> {
            for (int n : new int[] {1000, -1000, LEAST, MOST}) {
                Edges.refused("a " + n, Edges.ILLEGAL, x -> x.would(0, 0, n, 0, 0, 1));
                Edges.refused("b " + n, Edges.ILLEGAL, x -> x.would(0, 0, 1, n, 0, 1));
                Edges.refused("c " + n, Edges.ILLEGAL, x -> x.would(0, 0, 1, 0, n, 1));
                Edges.refused("d " + n, Edges.ILLEGAL, x -> x.would(0, 0, 1, 0, 1, n));
                Edges.refused("no row and a " + n, Edges.NO_SUCH, x -> x.would(10, 0, n, 0, 0, 1));
                Edges.refused("no k and a " + n, Edges.NO_SUCH, x -> x.would(0, 60, n, 0, 0, 1));
            }
            Edges.refused("c and d", Edges.ILLEGAL, x -> x.would(0, 0, 1, 1, 0, 0));
            Edges.refused("no k and c and d", Edges.NO_SUCH, x -> x.would(0, -1, 1, 1, 0, 0));
        });
    }

    private static void oftenAndLeft(Sentences doc) {
        doc.promise(24, "How many TERMS behind the first (of those that are known) are v.", () -> {
            TermRows x = Edges.told("[2;2,3,2,2]");
            Check.due("not the first", 3, x.often(0, 2));
            Check.due("3", 1, x.often(0, 3));
            Check.due("none", 0, x.often(0, 4));
            Check.due("0", 0, x.often(0, 0));
            Check.due("least", 0, x.often(0, LEAST));
            Check.due("most", 0, x.often(0, MOST));
            Check.due("one alone", 0, x.often(1, 0));
            Check.due("59", 59, Edges.told(GOLDEN).often(0, 1));
            Check.due("no terms", 0, Edges.empty().often(1, 0));
            Check.due("of those known", 58, Edges.used().often(3, 2));
        });
        doc.promise(24, "NoSuchElementException: no such ROW.", () -> refusesRows("often", (x, row) -> x.often(row, 2)));
        doc.promise(25, "ROOT's state at TERM k: P (what 0), Q (1) of (P and the root of D) by Q that is left there", () -> {
            TermRows x = new TermRows();
            x.root(0, 0, 19, 1);
            leaves(x, new int[][] {{0, 1}, {4, 3}, {2, 5}, {3, 2}, {3, 5}, {2, 3}, {4, 1}, {4, 3}});
            Check.due("the 60th", 2, x.left(0, 59, 0));
            Check.due("the 60th", 3, x.left(0, 59, 1));
            x.root(0, -2, 3, 1);
            leaves(x, new int[][] {{-2, 1}, {1, 2}, {1, 1}, {1, 2}});
        });
        doc.promise(25, "(D is D times Q times Q, and P, Q times the size of Q, at first, if Q isn't a part of D less P times P).", () -> {
            TermRows x = new TermRows();
            x.root(0, 1, 3, 5);
            leaves(x, new int[][] {{5, 25}, {-5, 2}});
            x.root(0, 1, 3, -5);
            leaves(x, new int[][] {{5, -25}, {20, 13}});
            x.root(0, 1, 3, -2);
            leaves(x, new int[][] {{1, -2}});
            x.root(0, 1, 3, 2);
            leaves(x, new int[][] {{1, 2}, {1, 1}, {1, 2}});
            x.root(0, 3, 2, 7);
            leaves(x, new int[][] {{3, 7}});
            x.root(0, 999, 9999, 99);
            leaves(x, new int[][] {{999 * 99, 99 * 99}});
            x.root(0, -999, 9998, -99);
            leaves(x, new int[][] {{-999 * 99, -99 * 99}});
        });
        doc.promise(25, "NoSuchElementException: no such ROW, it is no ROOT of a D that is no square, k isn't 0 to 59, another what.", () -> {
            refusesRows("left", (x, row) -> x.left(row, 0, 0));
            for (int row = 1; row < 6; row++) {
                int made = row;
                Edges.refused("no root: row " + row, Edges.NO_SUCH, x -> x.left(made, 0, 0));
            }
            for (int d : new int[] {0, 1, 4, 9801}) {
                TermRows x = new TermRows();
                x.root(0, 1, d, 2);
                Check.due("a square: " + d, Edges.NO_SUCH, () -> x.left(0, 0, 0));
            }
            for (int k : new int[] {-1, 60, LEAST, MOST}) {
                Edges.refused("left " + k, Edges.NO_SUCH, x -> x.left(0, k, 0));
            }
            for (int what : new int[] {-1, 2, LEAST, MOST}) {
                Edges.refused("what " + what, Edges.NO_SUCH, x -> x.left(0, 0, what));
            }
        });
    }

    private static void leaves(TermRows x, int[][] want) {
        for (int k = 0; k < want.length; k++) {
            Check.due("P at " + k, want[k][0], x.left(0, k, 0));
            Check.due("Q at " + k, want[k][1], x.left(0, k, 1));
        }
    }

    private static void says(String text, int n, String want) {
        Check.due("say " + n + " of " + text, want, Check.say(Edges.told(text), 0, n));
    }

    private static void say(Sentences doc) {
        doc.promise(26, "A ROW is SAID by its first n TERMS, as it would be told: [, TERM 0, ; ahead of TERM 1, commas ahead of others, ];", () -> {
            says("[-5]", 1, "[-5]");
            says("[0]", 60, "[0]");
            says("[-1]", 60, "[-1]");
            says("[4,2]", 2, "[4;2]");
            says("[4,2;6,7]", 4, "[4;2,6,7]");
            says("[-9999;9999,10,100,1000]", 60, "[-9999;9999,10,100,1000]");
            TermRows x = Edges.thousands();
            x.single(3, 2, -1, 0, 0, 1);
            x.single(4, 2, 0, 1, 1, 0);
            Check.due("the greatest", "[1000000000]", Check.say(x, 2, 1));
            Check.due("the least", "[-1000000000]", Check.say(x, 3, 1));
            Check.due("the greatest behind the first", "[0;1000000000]", Check.say(x, 4, 2));
            Check.due("no terms", "[]", Check.say(Edges.empty(), 1, 1));
        });
        doc.promise(26, "~ ahead of ] if it has more, or it doesn't END;", () -> {
            says("[4;2,6,7]", 3, "[4;2,6~]");
            says("[4;2,6,7]", 1, "[4~]");
            says("[0;" + Edges.rising(1, 59) + "]", 60, "[0;" + Edges.rising(1, 59) + "~]");
            says("[0;" + Edges.rising(1, 58) + "]", 60, "[0;" + Edges.rising(1, 58) + "]");
            says("[0;" + Edges.rising(1, 58) + "]", 59, "[0;" + Edges.rising(1, 58) + "]");
            says("[0;" + Edges.rising(1, 58) + "]", 58, "[0;" + Edges.rising(1, 57) + "~]");
            TermRows x = Edges.used();
            Check.due("spent, no terms", "[~]", Check.say(x, 4, 60));
            Check.due("stuck", "[2;" + Edges.same(2, 58) + "~]", Check.say(x, 3, 60));
            Check.due("stuck", "[2;" + Edges.same(2, 58) + "~]", Check.say(x, 3, 59));
        });
        doc.promise(26, "of a CUT ROW that comes AGAIN, t (1 at least) and d together n at most: TERMS ahead of t and, in brackets, d more, and no ~", () -> {
            says("[1;2,(3,4)]", 60, "[1;2,(3,4)]");
            says("[1;2,(3,4)]", 4, "[1;2,(3,4)]");
            says("[1;2,(3,4)]", 3, "[1;2,3~]");
            says("[1;(2)]", 2, "[1;(2)]");
            says("[1;(2)]", 1, "[1~]");
            says("[0;50,(" + Edges.rising(1, 29) + ")]", 31, "[0;50,(" + Edges.rising(1, 29) + ")]");
            says("[0;50,(" + Edges.rising(1, 29) + ")]", 30, "[0;50," + Edges.rising(1, 28) + "~]");
            says("[0;" + Edges.rising(1, 57) + ",99,99]", 59, "[0;" + Edges.rising(1, 57) + ",(99)]");
            says("[0;" + Edges.rising(1, 57) + ",99,99]", 58, "[0;" + Edges.rising(1, 57) + "~]");
            says("[1;1,1,1,(1,1)]", 60, "[1;(1)]");
        });
        doc.promise(26, "(t 0: TERM 0 stands ahead alone, and those in brackets are TERMS 1 to d): how many bytes.", () -> {
            says("[1;(1)]", 2, "[1;(1)]");
            says("[1;(1)]", 1, "[1~]");
            says("[1;(2,1)]", 3, "[1;(2,1)]");
            says("[1;(2,1)]", 2, "[1;2~]");
            says("[30;(" + Edges.rising(1, 30) + ")]", 31, "[30;(" + Edges.rising(1, 30) + ")]");
            says("[30;(" + Edges.rising(1, 30) + ")]", 30, "[30;" + Edges.rising(1, 29) + "~]");
            Check.due("bytes", 7, Edges.told("[1;(1)]").say(0, 2));
            Check.due("no terms", 2, Edges.empty().say(1, 60));
        });
        doc.promise(26, "NoSuchElementException: no such ROW.", () -> refusesRows("say", (x, row) -> x.say(row, 1)));
        doc.promise(26, "IllegalArgumentException (behind that): n isn't 1 to 60.", () -> {
            for (int n : new int[] {0, -1, 61, LEAST, MOST}) {
                Edges.refused("n " + n, Edges.ILLEGAL, x -> x.say(0, n));
                Edges.refused("no row and n " + n, Edges.NO_SUCH, x -> x.say(10, n));
            }
        });
    }

    private static void said(Sentences doc) {
        doc.promise(27, "Byte i of what the latest say() SAID (as it was then, whatever came since);", () -> {
            TermRows x = Edges.used();
            Check.due("said", "[-3;1,2]", Check.said(x));
            x.fraction(1, 1, 1);
            x.undo();
            x.undo();
            Check.due("no row", Edges.NO_SUCH, () -> x.say(10, 1));
            Check.due("n", Edges.ILLEGAL, () -> x.say(1, 0));
            x.told(1, 7);
            Check.due("as it was then", "[-3;1,2]", Check.said(x));
            x.say(1, 1);
            Check.due("the latest", "[5~]", Check.said(x));
            TermRows full = Edges.told("[-9999;" + Edges.same(9999, 30) + ",99,(1)]");
            Check.due("a long one", true, Check.say(full, 0, 60).length() > 160);
        });
        doc.promise(27, "NONE: there is none such, nothing was SAID.", () -> {
            TermRows x = new TermRows();
            for (int i : new int[] {0, 1, -1, LEAST, MOST}) {
                Check.due("nothing was said: " + i, TermRows.NONE, x.said(i));
            }
            Check.due("no row", Edges.NO_SUCH, () -> x.say(10, 1));
            Check.due("still nothing", TermRows.NONE, x.said(0));
            x.say(0, 1);
            Check.due("the last", ']', x.said(2));
            for (int i : new int[] {3, -1, 800, LEAST, MOST}) {
                Check.due("none such: " + i, TermRows.NONE, x.said(i));
            }
        });
    }
}
