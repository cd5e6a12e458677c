import java.util.Random;

/** Runs of calls drawn by fixed seeds: TermRows must answer each as Plain does. */
public final class WhatPlainSaysTest {
    private static final int CALLS = 512;

    private final Random random;
    private final TermRows rows = new TermRows();
    private final Plain plain = new Plain();
    private final int seed;
    // Every third run has told rows of ones and twos above all, so that many are alike in parts.
    private final boolean narrow;

    private WhatPlainSaysTest(int seed) {
        this.seed = seed;
        random = new Random(seed);
        narrow = seed % 3 == 0;
    }

    public static void main(String[] args) {
        int runs = args.length > 0 ? Integer.parseInt(args[0]) : 300;
        int from = args.length > 1 ? Integer.parseInt(args[1]) : 0;
        for (int seed = from; seed < from + runs && Check.wrong() < 20; seed++) {
            WhatPlainSaysTest run = new WhatPlainSaysTest(seed);
            for (int i = 0; i < CALLS; i++) {
                run.oneCall(i);
            }
        }
        Check.end();
    }

    private int below(int n) {
        return random.nextInt(n);
    }

    private int between(int low, int high) {
        return low + below(high - low + 1);
    }

    /** Mostly a lawful row, now and then none. */
    private int row() {
        return below(25) == 0 ? pick(-1, 10, Integer.MIN_VALUE, Integer.MAX_VALUE) : below(10);
    }

    private int pick(int... numbers) {
        return numbers[below(numbers.length)];
    }

    /** A number within size, often small or at the edge, now and then just or far beyond. */
    private int number(int size) {
        switch (below(12)) {
            case 0:
                return pick(-size, size);
            case 1:
                return below(4) == 0 ? pick(-size - 1, size + 1, Integer.MIN_VALUE, Integer.MAX_VALUE) : 1;
            case 2:
            case 3:
            case 4:
                return between(-size, size);
            default:
                return between(-Math.min(size, 6), Math.min(size, 9));
        }
    }

    private int place() {
        return below(20) == 0 ? pick(-2, -1, 60, Integer.MAX_VALUE, Integer.MIN_VALUE, Integer.MAX_VALUE - 1) : below(5) == 0 ? below(60) : below(12);
    }

    private void both(String call, Check.Call one, Check.Call two) {
        String what = "seed " + seed + ": " + call;
        Check.due(what, Check.answer(two), Check.answer(one));
    }

    private void oneCall(int i) {
        int kind = below(100);
        if (narrow && kind < 20) {
            tellNarrow();
        } else if (kind < 30) {
            change();
        } else if (kind < 40) {
            text();
        } else if (kind < 42) {
            both("undo()", rows::undo, plain::undo);
        } else {
            question(below(18), row(), row(), place());
        }
    }

    private void tellNarrow() {
        StringBuilder text = new StringBuilder("[").append(below(3));
        int ahead = below(3) == 0 ? below(50) : below(5);
        for (int i = 0; i < ahead; i++) {
            text.append(',').append(below(6) == 0 ? 2 : 1);
        }
        text.append(",(");
        int period = below(3) == 0 ? between(1, 34) : between(1, 4);
        for (int i = 0; i < period; i++) {
            text.append(i == 0 ? "" : ",").append(below(4) == 0 ? 2 : 1);
        }
        tellBoth(row(), text.append(")]").toString());
        question(pick(8, 9, 10, 11, 16), row(), row(), 0);
    }

    private void tellBoth(int row, String text) {
        both("ask to empty the tape", () -> rows.ask(0, 0), () -> plain.ask(0, 0));
        feed(text);
        both("told " + row + " " + text, () -> rows.told(row, text.length()), () -> plain.told(row, text.length()));
    }

    private void change() {
        int row = row();
        int i = below(3) > 0 && row > 0 && row < 10 ? below(row) : row();
        int j = below(3) > 0 && row > 0 && row < 10 ? below(row) : row();
        int a = number(999);
        int b = number(999);
        int c = number(999);
        int d = number(999);
        switch (below(6)) {
            case 0:
                int p = number(9999);
                int q = Math.abs(number(9999));
                both("fraction " + row + " " + p + " " + q, () -> rows.fraction(row, p, q) ? 1 : 0, () -> plain.fraction(row, p, q) ? 1 : 0);
                break;
            case 1:
                int rootD = below(2) == 0 ? below(30) : number(9999);
                int rootQ = number(99);
                both("root " + row + " " + a + " " + rootD + " " + rootQ,
                    () -> rows.root(row, a, rootD, rootQ) ? 1 : 0, () -> plain.root(row, a, rootD, rootQ) ? 1 : 0);
                break;
            case 2:
            case 3:
                both("single " + row + " " + i + " " + a + " " + b + " " + c + " " + d,
                    () -> rows.single(row, i, a, b, c, d) ? 1 : 0, () -> plain.single(row, i, a, b, c, d) ? 1 : 0);
                break;
            default:
                int how = below(30) == 0 ? pick(-1, 4) : below(4);
                both("join " + row + " " + how + " " + i + " " + j, () -> rows.join(row, how, i, j) ? 1 : 0, () -> plain.join(row, how, i, j) ? 1 : 0);
                break;
        }
    }

    private void feed(String text) {
        for (int i = 0; i < text.length(); i += 20) {
            int at = i;
            both("feed", () -> rows.feed(Check.four(text, at), Check.four(text, at + 4), Check.four(text, at + 8), Check.four(text, at + 12), Check.four(text, at + 16)),
                () -> plain.feed(Check.four(text, at), Check.four(text, at + 4), Check.four(text, at + 8), Check.four(text, at + 12), Check.four(text, at + 16)));
        }
    }

    private void text() {
        boolean tells = below(2) == 0;
        String text = spoiled(tells ? rowText() : "" + (below(2) == 0 ? "many" : "first") + blank(true) + test(0));
        feed(text);
        if (below(30) == 0) {
            return;
        }
        int row = row();
        int n = below(20) == 0 ? pick(-1, 201, Integer.MAX_VALUE, below(210)) : Math.min(text.length(), 200);
        String what = row + " " + n + " '" + text.replace('\n', '^') + "'";
        if (tells) {
            both("told " + what, () -> rows.told(row, n), () -> plain.told(row, n));
        } else {
            both("ask " + what, () -> rows.ask(row, n), () -> plain.ask(row, n));
        }
        both("fault() behind " + what, rows::fault, () -> plain.faultPlace);
    }

    private String blank(boolean must) {
        return below(4) == 0 ? "  \n".substring(0, between(1, 3)) : must ? " " : "";
    }

    private String figures(int least) {
        int kind = below(30);
        if (kind == 0) {
            return new String[] {"10000", "9999", "0", "007", "00", "99999999999999999999", "4294967297"}[below(7)];
        }
        return "" + (kind < 4 ? between(least, 9999) : between(least, 7));
    }

    private String mark() {
        return blank(false) + (below(4) == 0 ? ";" : ",") + blank(false);
    }

    private String rowText() {
        StringBuilder text = new StringBuilder(blank(false) + "[" + blank(false) + (below(4) == 0 ? "-" + blank(false) : "") + figures(0));
        int many = below(6) == 0 ? below(90) : below(8);
        for (int i = 0; i < many; i++) {
            text.append(mark()).append(figures(1));
        }
        if (below(3) > 0) {
            text.append(mark()).append("(").append(figures(1));
            int more = below(10) == 0 ? below(40) : below(4);
            for (int i = 0; i < more; i++) {
                text.append(mark()).append(figures(1));
            }
            text.append(")");
        }
        return text.append(blank(false)).append("]").append(blank(false)).toString();
    }

    private String value() {
        String[] words = {"place", "term", "ahead", "sum", "behind"};
        return below(3) == 0 ? figures(0) : words[below(words.length)];
    }

    private String test(int depth) {
        StringBuilder text = new StringBuilder(fact(depth));
        while (below(3) == 0) {
            text.append(blank(true)).append(below(2) == 0 ? "and" : "or").append(blank(true)).append(fact(depth));
        }
        return text.toString();
    }

    private String fact(int depth) {
        int kind = depth > 9 ? 9 : below(10);
        if (kind < 3) {
            return "not " + fact(depth + 1);
        }
        if (kind < 5) {
            return "{" + blank(false) + test(depth + 1) + blank(false) + "}";
        }
        return value() + blank(false) + "<=>".charAt(below(3)) + blank(false) + value();
    }

    /** Now and then a byte is dropped, doubled, changed, or the rest cut off. */
    private String spoiled(String text) {
        if (below(3) > 0 || text.isEmpty()) {
            return text;
        }
        int at = below(text.length());
        String signs = "[](){};,-<=>019 \nabmnorty~A" + (char) 0 + (char) 9 + (char) 200 + (char) 255;
        switch (below(4)) {
            case 0:
                return text.substring(0, at) + text.substring(at + 1);
            case 1:
                return text.substring(0, at) + text.charAt(at) + text.substring(at);
            case 2:
                return text.substring(0, at) + signs.charAt(below(signs.length())) + text.substring(at + 1);
            default:
                return text.substring(0, at);
        }
    }

    private void question(int kind, int row, int other, int k) {
        int what = below(25) == 0 ? pick(-1, 8, 2) : below(8);
        int part = below(25) == 0 ? pick(-1, 2) : below(2);
        boolean flag = below(2) == 0;
        String args = row + " " + other + " " + k + " " + what + " " + part + " " + flag;
        switch (kind) {
            case 0:
                both("count " + what, () -> rows.count(what), () -> plain.count(what));
                break;
            case 1:
            case 2:
                both("of " + args, () -> rows.of(row, what), () -> plain.of(row, what));
                break;
            case 3:
                both("term " + args, () -> rows.term(row, k), () -> plain.term(row, k));
                break;
            case 4:
                both("read " + args, () -> rows.read(row, k, flag), () -> plain.read(row, k, flag));
                break;
            case 5:
                both("convergent " + args, () -> rows.convergent(row, k, flag), () -> plain.convergent(row, k, flag));
                break;
            case 6:
                int most = below(10) == 0 ? pick(0, -1, Integer.MIN_VALUE, Integer.MAX_VALUE) : 1 << below(31);
                both("nearest " + row + " " + most, () -> rows.nearest(row, most), () -> plain.nearest(row, most));
                break;
            case 7:
                int m = below(3) == 0 ? number(20) : below(3);
                both("mediant " + args + " " + m, () -> rows.mediant(row, k, m, flag), () -> plain.mediant(row, k, m, flag));
                break;
            case 8:
                both("compare " + args, () -> rows.compare(row, other), () -> plain.compare(row, other));
                break;
            case 9:
                both("alike " + args, () -> rows.alike(row, other), () -> plain.alike(row, other));
                break;
            case 10:
                both("again " + args, () -> rows.again(row, part), () -> plain.again(row, part));
                break;
            case 11:
                both("tails " + args, () -> rows.tails(row, other, part), () -> plain.tails(row, other, part));
                break;
            case 12:
                int n = below(10) == 0 ? pick(0, -1, 9999, 10000) : between(1, 9999);
                both("floor " + row + " " + n, () -> rows.floor(row, n), () -> plain.floor(row, n));
                break;
            case 13:
                would(row, k);
                break;
            case 14:
                int v = number(9);
                both("often " + row + " " + v, () -> rows.often(row, v), () -> plain.often(row, v));
                break;
            case 15:
                both("left " + args, () -> rows.left(row, k, part), () -> plain.left(row, k, part));
                break;
            case 16:
                say(row);
                break;
            default:
                allOf(row);
                break;
        }
    }

    private void would(int row, int k) {
        int a = number(999);
        int b = number(999);
        int c = number(999);
        int d = number(999);
        both("would " + row + " " + k + " " + a + " " + b + " " + c + " " + d,
            () -> rows.would(row, k, a, b, c, d), () -> plain.would(row, k, a, b, c, d));
    }

    private void say(int row) {
        int n = below(10) == 0 ? pick(0, 61, -1) : between(1, 60);
        both("say " + row + " " + n, () -> rows.say(row, n), () -> plain.say(row, n));
        for (int i = -1; i <= plain.said.length(); i++) {
            int at = i;
            both("said " + i + " behind say " + row + " " + n, () -> rows.said(at), () -> plain.said(at));
        }
    }

    private void allOf(int row) {
        for (int k = 0; k < 60; k += 1) {
            int at = k;
            both("term " + row + " " + at, () -> rows.term(row, at), () -> plain.term(row, at));
            both("read " + row + " " + at, () -> rows.read(row, at, false), () -> plain.read(row, at, false));
            both("read second " + row + " " + at, () -> rows.read(row, at, true), () -> plain.read(row, at, true));
            both("convergent " + row + " " + at, () -> rows.convergent(row, at, false), () -> plain.convergent(row, at, false));
        }
    }
}
