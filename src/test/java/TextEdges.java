/** Texts, questions, the tape: "## Terms" as far as it tells of them, and promises 2 to 5. */
final class TextEdges {
    private static final long MISPLACED = 1;
    private static final long UNFIT = 2;
    private static final long TOO_DEEP = 3;

    private TextEdges() {
    }

    static void hold(Sentences doc) {
        texts(doc);
        faults(doc);
        questions(doc);
        questionFaults(doc);
        feed(doc);
        told(doc);
        ask(doc);
        fault(doc);
    }

    private static void tells(String text, int numbers, int... terms) {
        TermRows x = new TermRows();
        Check.due("told '" + text + "'", numbers, Check.tell(x, 4, text));
        Check.due("fault of '" + text + "'", TermRows.NONE, x.fault());
        for (int k = 0; k < terms.length; k++) {
            Check.due("term " + k + " of '" + text + "'", terms[k], x.term(4, k));
        }
    }

    private static void tellsNot(String text, long fault, int place) {
        TermRows x = new TermRows();
        Check.due("told '" + text + "'", -10 - fault, Check.tell(x, 4, text));
        Check.due("fault of '" + text + "'", place, x.fault());
    }

    /** A question of the row -4, 2, 6, 7, 2. */
    private static void asks(String text, long want) {
        TermRows x = Edges.told("[-4;2,6,7,2]");
        Check.due("ask '" + text + "'", want, Check.ask(x, 0, text));
        Check.due("fault of '" + text + "'", TermRows.NONE, x.fault());
    }

    private static void asksNot(String text, long fault, int place) {
        TermRows x = new TermRows();
        Check.due("ask '" + text + "'", TermRows.HIDDEN - fault, Check.ask(x, 4, text));
        Check.due("fault of '" + text + "'", place, x.fault());
    }

    private static void texts(Sentences doc) {
        doc.terms("A TEXT of at most 200 bytes: '[' WHOLE TAIL ']'.", () -> {
            tells("[1" + ",1".repeat(98) + " ]", 99, 1, 1);
            tells("[" + " ".repeat(197) + "1]", 1, 1);
            tells("[1]", 1, 1);
            tellsNot("[1" + ",1".repeat(99), MISPLACED, 200);
            tellsNot("1]", MISPLACED, 0);
            tellsNot("[1", MISPLACED, 2);
            tellsNot("[[1]", MISPLACED, 1);
            tellsNot("[1]]", MISPLACED, 3);
        });
        doc.terms("TAIL: ((';' | ',') NUMBER)* ((';' | ',') '(' NUMBER ((';' | ',') NUMBER)* ')')?.", () -> {
            tells("[1,2;3]", 3, 1, 2, 3);
            tells("[1;(2;3,4)]", 4, 1, 2, 3, 4, 2, 3, 4);
            tells("[1,(2)]", 2, 1, 2, 2);
            tellsNot("[1;]", MISPLACED, 3);
            tellsNot("[1;;2]", MISPLACED, 3);
            tellsNot("[1(2)]", MISPLACED, 2);
            tellsNot("[1;()]", MISPLACED, 4);
            tellsNot("[1;(2,)]", MISPLACED, 6);
            tellsNot("[1;(2]", MISPLACED, 5);
            tellsNot("[1;2)]", MISPLACED, 4);
            tellsNot("[1;(2),3]", MISPLACED, 6);
            tellsNot("[1;(2),(3)]", MISPLACED, 6);
            tellsNot("[1;((2))]", MISPLACED, 4);
            tellsNot("[1;-2]", MISPLACED, 3);
        });
        doc.terms("WHOLE: '-'? NUMBER (0 to 9999, with - -9999 to 0).", () -> {
            tells("[0]", 1, 0);
            tells("[9999]", 1, 9999);
            tells("[-0]", 1, 0);
            tells("[-1]", 1, -1);
            tells("[-9999]", 1, -9999);
            tellsNot("[10000]", UNFIT, 1);
            tellsNot("[-10000]", UNFIT, 2);
            tellsNot("[--1]", MISPLACED, 2);
            tellsNot("[+1]", MISPLACED, 1);
            tellsNot("[-]", MISPLACED, 2);
            tellsNot("[]", MISPLACED, 1);
            tellsNot("[;1]", MISPLACED, 1);
            tellsNot("[(1)]", MISPLACED, 1);
        });
        doc.terms("NUMBER: figures (1 to 9999).", () -> {
            tells("[0;1]", 2, 0, 1);
            tells("[0;9999]", 2, 0, 9999);
            tells("[0;(1,9999)]", 3, 0, 1, 9999);
            tellsNot("[0;0]", UNFIT, 3);
            tellsNot("[0;10000]", UNFIT, 3);
            tellsNot("[0;1,(0)]", UNFIT, 6);
            tellsNot("[0;1,(2,0)]", UNFIT, 8);
            tellsNot("[0;1,(2,10000)]", UNFIT, 8);
        });
        doc.terms("The TERMS in order; those in brackets come again and again.", () -> {
            tells("[3;1,4,1,5]", 5, 3, 1, 4, 1, 5);
            TermRows x = Edges.told("[9;8,(7,6,5)]");
            for (int k = 2; k < 60; k++) {
                Check.due("term " + k, 7 - (k - 2) % 3, x.term(0, k));
            }
            Check.due("known", 60, x.of(0, 1));
            Check.due("cut", Edges.CUT, x.of(0, 2));
            TermRows full = Edges.told("[1;" + Edges.rising(2, 58) + ",(3,4,5)]");
            Check.due("the 60th of 62", 3, full.term(0, 59));
        });
        doc.terms("TOKENS: rows of figures (they count as what they are, 007 as 7), all other bytes one by one; "
            + "blanks (32, 10) stand where one likes but in rows of figures.", () -> {
                tells("[007;0009999]", 2, 7, 9999);
                tells("[-00;01]", 2, 0, 1);
                tells("[" + "0".repeat(197) + "8]", 1, 8);
                tells(" \n[\n- 7 ,\n( 1 ;2 ) ] \n", 3, -7, 1, 2);
                tellsNot("[1 2]", MISPLACED, 3);
                tellsNot("[1;2\n3]", MISPLACED, 5);
                tellsNot("[1;00000]", UNFIT, 3);
                for (int blank : new int[] {0, 9, 11, 13, 31, 33, 127, 160, 255}) {
                    tellsNot("[1" + (char) blank + "]", MISPLACED, 2);
                    asksNot("many" + (char) blank + "1 = 1", MISPLACED, 4);
                }
                tellsNot("[" + (char) ('0' + 128) + "]", MISPLACED, 1);
            });
    }

    private static void faults(Sentences doc) {
        doc.terms("FAULTS: the text is gone through from its first byte on, TOKEN by TOKEN; at the first TOKEN at which "
            + "one of these is so it is that, its place that byte:", () -> {
                tellsNot("[1;x,0]", MISPLACED, 3);
                tellsNot("[1;0,x]", UNFIT, 3);
                tellsNot("[10000x", UNFIT, 1);
                tellsNot("[1;  00000 x", UNFIT, 5);
                tellsNot("x[10000]", MISPLACED, 0);
                tellsNot("  \n[1;2,3 4]", MISPLACED, 10);
                asksNot("many x = 10000", MISPLACED, 5);
                asksNot("many 10000 = x", UNFIT, 5);
            });
        doc.terms("1 it can't stand there (the end, where the text can't end: its length);", () -> {
            tellsNot("", MISPLACED, 0);
            tellsNot("   ", MISPLACED, 3);
            tellsNot("[", MISPLACED, 1);
            tellsNot("[-", MISPLACED, 2);
            tellsNot("[1;", MISPLACED, 3);
            tellsNot("[1;2 \n ", MISPLACED, 7);
            tellsNot("[1;(", MISPLACED, 4);
            tellsNot("[1;(2", MISPLACED, 5);
            tellsNot("[1;(2)", MISPLACED, 6);
            tellsNot("[1] x", MISPLACED, 4);
            tellsNot("[1] 2", MISPLACED, 4);
            tellsNot("[" + " ".repeat(199), MISPLACED, 200);
            asksNot("many 1 = 1 and" + " ".repeat(186), MISPLACED, 200);
        });
        doc.terms("2 a NUMBER (of WHOLE, too) that isn't as told.", () -> {
            tellsNot("[10000]", UNFIT, 1);
            tellsNot("[- 10000]", UNFIT, 3);
            tellsNot("[99999999999999999999]", UNFIT, 1);
            tellsNot("[4294967297]", UNFIT, 1);
            tellsNot("[18446744073709551617]", UNFIT, 1);
            tellsNot("[" + "9".repeat(198) + "]", UNFIT, 1);
            tellsNot("[1;4294967297]", UNFIT, 3);
            tellsNot("[1;0]", UNFIT, 3);
        });
    }

    private static void questions(Sentences doc) {
        doc.terms("A QUESTION is a TEXT of at most 200 bytes: ('many' | 'first') TEST.", () -> {
            asks("many term = 2" + " or 0 = 1".repeat(20) + " ".repeat(7), 2);
            asks("first term = 2", 1);
            asksNot("many" + " ".repeat(195) + "1", MISPLACED, 200);
            asksNot("term = 2", MISPLACED, 0);
            asksNot("many", MISPLACED, 4);
            asksNot("first", MISPLACED, 5);
            asksNot("many many 1 = 1", MISPLACED, 5);
            asksNot("first many 1 = 1", MISPLACED, 6);
            asksNot("many 1 = 1 first", MISPLACED, 11);
        });
        doc.terms("TEST: BOTH ('or' BOTH)*.", () -> {
            asks("many term = 7 or term = 6", 2);
            asks("many term = 7 or term = 6 or place = 0", 3);
            asks("many 1 = 1 or 1 = 0 and 1 = 0", 5);
            asks("many 1 = 0 and 1 = 0 or 1 = 1", 5);
            asks("many 1 = 0 or 1 = 1 and 1 = 0", 0);
            asksNot("many or 1 = 1", MISPLACED, 5);
            asksNot("many 1 = 1 or", MISPLACED, 13);
            asksNot("many 1 = 1 or or 1 = 1", MISPLACED, 14);
        });
        doc.terms("BOTH: FACT ('and' FACT)*.", () -> {
            asks("many term = 2 and place = 1", 1);
            asks("many term > 1 and term < 7 and place > 1", 2);
            asksNot("many and 1 = 1", MISPLACED, 5);
            asksNot("many 1 = 1 and", MISPLACED, 14);
            asksNot("many 1 = 1 and or 1 = 1", MISPLACED, 15);
            asksNot("many 1 = 1 1 = 1", MISPLACED, 11);
        });
        doc.terms("FACT: 'not' FACT | '{' TEST '}' | VALUE ('<' | '=' | '>') VALUE.", () -> {
            asks("many not term = 2", 3);
            asks("many not term = 2 and place = 0", 1);
            asks("many not {term = 2 and place = 1}", 4);
            asks("many {term = 2 or term = 6} and place > 1", 2);
            asks("many term < 2", 1);
            asks("many 2 < term", 2);
            asks("many term > 2", 2);
            asksNot("many {}", MISPLACED, 6);
            asksNot("many {1 = 1", MISPLACED, 11);
            asksNot("many 1 = 1}", MISPLACED, 10);
            asksNot("many not", MISPLACED, 8);
            asksNot("many 1", MISPLACED, 6);
            asksNot("many 1 <", MISPLACED, 8);
            asksNot("many 1 1", MISPLACED, 7);
            asksNot("many 1 <= 1", MISPLACED, 8);
            asksNot("many 1 = 1 = 1", MISPLACED, 11);
            asksNot("many 1 ! 1", MISPLACED, 7);
            asksNot("many (1 = 1)", MISPLACED, 5);
        });
        doc.terms("VALUE: figures (0 to 9999) |", () -> {
            asks("many 0 = 0000", 5);
            asks("many 9999 = 009999", 5);
            asks("many 9998 < 9999", 5);
            asksNot("many 10000 = 1", UNFIT, 5);
            asksNot("many 1 = 10000", UNFIT, 9);
            asksNot("many 1 = 4294967297", UNFIT, 9);
            asksNot("many -1 = 1", MISPLACED, 5);
            asksNot("many 1 = -1", MISPLACED, 9);
        });
        doc.terms("of a TERM: 'place', 'term', 'ahead' (the TERM ahead of it; 0 of the first), 'sum' (of all TERMS to this "
            + "one), 'behind' (how many known ones come behind it).", () -> {
                for (int k = 0; k < 5; k++) {
                    asks("first place = " + k, k);
                    asks("first behind = " + k, 4 - k);
                }
                asks("many place > 4", 0);
                asks("many behind > 4", 0);
                asks("many term < 0", 1);
                asks("first ahead = 0", 0);
                asks("many ahead = 0", 1);
                asks("first ahead < 0", 1);
                asks("first ahead = 7", 4);
                asks("many sum < 0", 2);
                asks("first sum = 4", 2);
                asks("first sum = 13", 4);
                asks("many sum = term", 1);
            });
        doc.terms("WORDS are rows of small letters.", () -> {
            asks("many{term=2}and place>1or 1=0", 1);
            asks("many2=term", 2);
            String[] words = {"place", "term", "ahead", "sum", "behind", "not"};
            for (String word : words) {
                asksNot("many z" + word.substring(1) + " = 2", MISPLACED, 5);
                asksNot("many " + word + "z = 2", MISPLACED, 5);
                asksNot("many a" + word + " = 2", MISPLACED, 5);
                asksNot("many " + word.substring(0, word.length() - 1) + " = 2", MISPLACED, 5);
            }
            asksNot("zany 1 = 1", MISPLACED, 0);
            asksNot("zirst 1 = 1", MISPLACED, 0);
            asksNot("many 1 = 1 zr 1 = 1", MISPLACED, 11);
            asksNot("many 1 = 1 znd 1 = 1", MISPLACED, 11);
            asksNot("manyterm = 2", MISPLACED, 0);
            asksNot("many terms = 2", MISPLACED, 5);
            asksNot("many ter m = 2", MISPLACED, 5);
            asksNot("many nota = 2", MISPLACED, 5);
            asksNot("many Term = 2", MISPLACED, 5);
            asksNot("many tErm = 2", MISPLACED, 5);
            asksNot("mAny term = 2", MISPLACED, 0);
            asksNot("man", MISPLACED, 0);
            asksNot("many term = " + "z".repeat(188), MISPLACED, 12);
        });
    }

    private static void questionFaults(Sentences doc) {
        doc.terms("FAULTS as in 1 (3: the 7th of 'not', '{' that are open at once, 'not' till its FACT ends).", () -> {
            asks("many not not not not not not term = 2", 2);
            asks("many {{{{{{term = 2}}}}}}", 2);
            asks("many {not {not {not term = 2}}}", 3);
            asks("many not not not not not not 1 = 1 and not not not not not not term = 2", 2);
            asks("many {{{{{{1 = 1}}}}} and {{{{{term = 2}}}}}}", 2);
            asks("many {{{{{not 1 = 0 and not term = 2}}}}}", 3);
            asksNot("many not not not not not not not 1 = 1", TOO_DEEP, 29);
            asksNot("many {{{{{{{1 = 1}}}}}}}", TOO_DEEP, 11);
            asksNot("many {{{{{{not 1 = 1}}}}}}", TOO_DEEP, 11);
            asksNot("many not {not {not {{1 = 1}}}}", TOO_DEEP, 20);
            asksNot("many {{{{{{1 = 1 and {1 = 1}}}}}}}", TOO_DEEP, 21);
            asksNot("many {{{{{not {x", TOO_DEEP, 14);
            asksNot("many {{{{{{{{{{{{{{{{{{", TOO_DEEP, 11);
            asksNot("many {{{{{{ or {", MISPLACED, 12);
            asksNot("many " + "{".repeat(195), TOO_DEEP, 11);
        });
        doc.terms("It is asked of all known TERMS of a ROW: for how many it holds; the place of the first one (NONE).", () -> {
            asks("many 1 = 1", 5);
            asks("many 1 = 0", 0);
            asks("first 1 = 1", 0);
            asks("first place = 4", 4);
            asks("first 1 = 0", TermRows.NONE);
            TermRows cut = Edges.told("[1;(2)]");
            Check.due("all 60", 60, Check.ask(cut, 0, "many 1 = 1"));
            Check.due("the last", 59, Check.ask(cut, 0, "first place = 59"));
            Check.due("none behind it", TermRows.NONE, Check.ask(cut, 0, "first place > 59"));
            Check.due("59 behind the first", 0, Check.ask(cut, 0, "first behind = 59"));
            TermRows none = Edges.empty();
            Check.due("of a row without terms", 0, Check.ask(none, 1, "many 1 = 1"));
            Check.due("of a row without terms", 0, Check.ask(none, 1, "many not 1 = 1"));
            Check.due("of a row without terms", TermRows.NONE, Check.ask(none, 1, "first 1 = 1"));
        });
    }

    private static int feedBlanks(TermRows x) {
        int four = Check.four("    ", 0);
        return x.feed(four, four, four, four, four);
    }

    private static void feed(Sentences doc) {
        doc.promise(2, "Twenty bytes come behind the tape, of each number the highest first: how many it has;", () -> {
            TermRows x = new TermRows();
            Check.due("the first", 20, x.feed(Check.four("[1;2", 0), Check.four(",3,4", 0), Check.four(",5,6", 0),
                Check.four(",7,8", 0), Check.four(",9,1", 0)));
            Check.due("behind it", 40, x.feed(Check.four("0,11", 0), Check.four(",12,", 0), Check.four("13,1", 0),
                Check.four("4,15", 0), Check.four("]   ", 0)));
            Check.due("told", 15, x.told(0, 40));
            Edges.terms("in order", x, 0, 1, 2, 3, 4, 5, 6, 7, 8, 9, 10, 11, 12, 13, 14, 15);
            x.feed(Check.four("[1]", 0) | 0x80, Integer.MIN_VALUE, -1, Integer.MAX_VALUE, 0);
            Check.due("a byte above 127", -11, x.told(0, 20));
            Check.due("its place", 3, x.fault());
        });
        doc.promise(2, "NONE, and none come, if it would have more than 200.", () -> {
            TermRows x = new TermRows();
            Check.feed(x, "[1" + ",2".repeat(98) + "]");
            Check.due("full", 200, x.count(1));
            Check.due("one more", TermRows.NONE, x.feed(-1, -1, -1, -1, -1));
            Check.due("and again", TermRows.NONE, feedBlanks(x));
            Check.due("still full", 200, x.count(1));
            Check.due("and as it was", 99, x.told(0, 200));
            Check.due("then there is room", 20, feedBlanks(x));
            TermRows y = new TermRows();
            for (int i = 1; i <= 10; i++) {
                Check.due("feed " + i, 20 * i, feedBlanks(y));
            }
            Check.due("the 11th", TermRows.NONE, feedBlanks(y));
        });
    }

    private static void told(Sentences doc) {
        doc.promise(3, "An ACT: a ROW is TOLD by the tape's first n bytes (it is empty then, whatever comes of it): how many "
            + "TERMS were told.", () -> {
                TermRows x = new TermRows();
                Check.feed(x, "[1;2,3],4");
                Check.due("the first 7 bytes", 3, x.told(9, 7));
                Check.due("the tape is empty", 0, x.count(1));
                Check.due("an act", 1, x.count(0));
                Check.due("it is told", 2, x.of(9, 0));
                Check.due("59", 59, Check.tell(x, 0, "[" + Edges.same(1, 59) + "]"));
                Check.due("60", 60, Check.tell(x, 0, "[" + Edges.same(1, 60) + "]"));
                Check.due("99, more than are known", 99, Check.tell(x, 0, "[" + Edges.same(1, 99) + "]"));
                Check.due("those in brackets once", 4, Check.tell(x, 0, "[1;2,(3,4)]"));
                Check.feed(x, "[1;0]");
                x.told(0, 5);
                Check.due("empty behind a fault", 0, x.count(1));
                Check.feed(x, "[1]");
                Check.due("none of the bytes", -11, x.told(0, 0));
                Check.due("empty then, too", 0, x.count(1));
                Check.due("of an empty tape", -11, x.told(0, 0));
            });
        doc.promise(3, "-10 less the FAULT (nothing else changes).", () -> {
            for (String text : new String[] {"", "[1;x]", "[1;0]", "[10000]", "[1;(2)"}) {
                TermRows x = Edges.used();
                x.ask(0, 0);
                String before = Edges.rowsState(x);
                boolean unfit = text.contains("0");
                Check.due("told '" + text + "'", unfit ? -12 : -11, Check.tell(x, 1, text));
                Check.due("nothing else changes by '" + text + "'", before, Edges.rowsState(x));
                Check.due("the latest act is still the one ahead", 4, x.undo());
                Check.due("and is undone", 0, x.of(4, 0));
            }
        });
        doc.promise(3, "IllegalArgumentException (ahead of all, and nothing changes): no such ROW, the tape has not so many, n below 0.", () -> {
            Edges.refusesRows("told", Edges.ILLEGAL, (x, row) -> x.told(row, 7));
            for (int n : new int[] {21, 201, Integer.MAX_VALUE, -1, Integer.MIN_VALUE}) {
                Edges.refused("told of " + n, Edges.ILLEGAL, x -> x.told(0, n));
            }
            Edges.refused("told of a faulty text and no row", Edges.ILLEGAL, x -> x.told(10, 3));
            Check.due("an empty tape", Edges.ILLEGAL, () -> new TermRows().told(0, 1));
            Check.due("all that it has", 3, Edges.used().told(0, 20));
        });
    }

    private static void ask(Sentences doc) {
        doc.promise(4, "The tape's first n bytes (it is empty then, whatever comes of it) are a QUESTION of a ROW: its answer;", () -> {
            TermRows x = Edges.told("[2;2,3]");
            Check.feed(x, "many term = 2 and");
            Check.due("the first 13 bytes", 2, x.ask(0, 13));
            Check.due("the tape is empty", 0, x.count(1));
            Check.feed(x, "many term = 2 and");
            x.ask(0, 17);
            Check.due("empty behind a fault", 0, x.count(1));
            Check.feed(x, "many");
            x.ask(0, 0);
            Check.due("empty behind none", 0, x.count(1));
            Check.due("no act", 1, x.count(0));
            Check.due("of the last row", 1, Check.ask(x, 9, "many term = 0"));
        });
        doc.promise(4, "HIDDEN less the FAULT.", () -> {
            TermRows x = new TermRows();
            Check.due("1", -1000000001, Check.ask(x, 0, "many"));
            Check.due("2", -1000000002, Check.ask(x, 0, "many 1 = 10000"));
            Check.due("3", -1000000003, Check.ask(x, 0, "many {{{{{{{"));
            Check.due("of nothing", -1000000001, x.ask(0, 0));
        });
        doc.promise(4, "IllegalArgumentException (ahead of all, and nothing changes): no such ROW, the tape has not so many, n below 0.", () -> {
            Edges.refusesRows("ask", Edges.ILLEGAL, (x, row) -> x.ask(row, 7));
            for (int n : new int[] {21, 201, Integer.MAX_VALUE, -1, Integer.MIN_VALUE}) {
                Edges.refused("ask of " + n, Edges.ILLEGAL, x -> x.ask(0, n));
            }
            Check.due("an empty tape", Edges.ILLEGAL, () -> new TermRows().ask(0, 1));
        });
    }

    private static void fault(Sentences doc) {
        doc.promise(5, "The place of the latest FAULT of told(), ask() (the latest of these that was no IllegalArgumentException);", () -> {
            TermRows x = new TermRows();
            Check.tell(x, 0, "[1;0]");
            Check.due("of told", 3, x.fault());
            Check.due("refused", Edges.ILLEGAL, () -> x.told(0, 1));
            Check.due("refused", Edges.ILLEGAL, () -> x.ask(0, -1));
            Check.due("refused", Edges.ILLEGAL, () -> x.ask(10, 0));
            Check.due("it stays", 3, x.fault());
            Check.ask(x, 0, "many x");
            Check.due("of ask", 5, x.fault());
            x.told(0, 0);
            Check.due("at the first byte", 0, x.fault());
            Check.tell(x, 0, "[" + " ".repeat(199));
            Check.due("behind the last byte", 200, x.fault());
            x.fraction(0, 1, 2);
            x.undo();
            x.say(0, 1);
            Check.due("no other call has one", 200, x.fault());
        });
        doc.promise(5, "NONE: it had none, or there was none.", () -> {
            TermRows x = new TermRows();
            Check.due("there was none", TermRows.NONE, x.fault());
            Check.due("refused", Edges.ILLEGAL, () -> x.told(0, 1));
            Check.due("still none", TermRows.NONE, x.fault());
            Check.tell(x, 0, "x");
            Check.tell(x, 0, "[1]");
            Check.due("told had none", TermRows.NONE, x.fault());
            Check.tell(x, 0, "x");
            Check.ask(x, 0, "many 1 = 1");
            Check.due("ask had none", TermRows.NONE, x.fault());
        });
    }
}
