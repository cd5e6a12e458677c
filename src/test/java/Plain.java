import java.math.BigInteger;
import java.util.ArrayDeque;
import java.util.ArrayList;
import java.util.Arrays;
import java.util.Deque;
import java.util.List;
import java.util.NoSuchElementException;

/**
 * The document once more, written for plainness alone: whole numbers without limits, lists, every
 * row reckoned anew after each act. WhatPlainSaysTest holds TermRows against it.
 */
final class Plain {
    static final BigInteger LIMIT = BigInteger.TEN.pow(15);
    static final BigInteger TERM_LIMIT = BigInteger.TEN.pow(9);

    static final class Def {
        int kind;
        int[] numbers = {};
        int i = -1;
        int j = -1;
        List<Integer> told = new ArrayList<>();
        int returnsTo = -1;
    }

    static final class Known {
        List<BigInteger> terms = new ArrayList<>();
        List<int[]> reads = new ArrayList<>();
        int stop;
        int read;

        int term(int k) {
            return terms.get(k).intValueExact();
        }

        int size() {
            return terms.size();
        }
    }

    static final class Fault extends Exception {
        final int code;
        final int place;

        Fault(int code, int place) {
            this.code = code;
            this.place = place;
        }
    }

    final Def[] defs = new Def[10];
    // Kept only until the next act, or chains of joined rows would take too long.
    final Known[] reckoned = new Known[10];
    final Deque<Object[]> acts = new ArrayDeque<>();
    final List<Integer> tape = new ArrayList<>();
    int faultPlace = -1;
    String said = "";

    Plain() {
        for (int i = 0; i < 10; i++) {
            defs[i] = fractionOf(0, 1);
        }
    }

    // ---- making rows

    static Def fractionOf(int p, int q) {
        Def def = new Def();
        def.numbers = new int[] {p, q};
        return def;
    }

    static boolean noRow(int row) {
        return row < 0 || row > 9;
    }

    void act(int row, Def def) {
        acts.addLast(new Object[] {row, defs[row]});
        if (acts.size() > 16) {
            acts.removeFirst();
        }
        defs[row] = def;
        Arrays.fill(reckoned, null);
    }

    boolean fraction(int row, int p, int q) {
        if (noRow(row) || p < -9999 || p > 9999 || q < 1 || q > 9999) {
            return false;
        }
        act(row, fractionOf(p, q));
        return true;
    }

    boolean root(int row, int p, int d, int q) {
        if (noRow(row) || p < -999 || p > 999 || d < 0 || d > 9999 || q < -99 || q > 99 || q == 0) {
            return false;
        }
        Def def = new Def();
        def.kind = 1;
        def.numbers = new int[] {p, d, q};
        act(row, def);
        return true;
    }

    static boolean badSingle(int a, int b, int c, int d) {
        for (long n : new long[] {a, b, c, d}) {
            if (Math.abs(n) > 999) {
                return true;
            }
        }
        return c == 0 && d == 0;
    }

    boolean single(int row, int i, int a, int b, int c, int d) {
        if (noRow(row) || noRow(i) || i >= row || badSingle(a, b, c, d)) {
            return false;
        }
        act(row, singleOf(i, a, b, c, d));
        return true;
    }

    static Def singleOf(int i, int a, int b, int c, int d) {
        Def def = new Def();
        def.kind = 3;
        def.i = i;
        def.numbers = new int[] {a, b, c, d};
        return def;
    }

    boolean join(int row, int how, int i, int j) {
        if (noRow(row) || noRow(i) || noRow(j) || how < 0 || how > 3 || i >= row || j >= row) {
            return false;
        }
        Def def = new Def();
        def.kind = 4;
        def.i = i;
        def.j = j;
        def.numbers = new int[] {how};
        act(row, def);
        return true;
    }

    int undo() {
        if (acts.isEmpty()) {
            return -1;
        }
        Object[] latest = acts.removeLast();
        defs[(Integer) latest[0]] = (Def) latest[1];
        Arrays.fill(reckoned, null);
        return acts.size();
    }

    // ---- reckoning rows

    Known known(int row) {
        if (noRow(row)) {
            throw new NoSuchElementException();
        }
        if (reckoned[row] == null) {
            reckoned[row] = known(defs[row]);
        }
        return reckoned[row];
    }

    Known known(Def def) {
        switch (def.kind) {
            case 0:
                return divided(BigInteger.valueOf(def.numbers[0]), BigInteger.valueOf(def.numbers[1]));
            case 1:
                return rooted(def.numbers[0], def.numbers[1], def.numbers[2]);
            case 2:
                return toldRow(def);
            case 3:
                return singled(known(def.i), def.numbers);
            default:
                return doubled(known(def.i), known(def.j), def.numbers[0]);
        }
    }

    static BigInteger floorDiv(BigInteger a, BigInteger b) {
        BigInteger[] parts = a.divideAndRemainder(b);
        return parts[1].signum() != 0 && parts[1].signum() != b.signum() ? parts[0].subtract(BigInteger.ONE) : parts[0];
    }

    static Known divided(BigInteger p, BigInteger q) {
        Known out = new Known();
        while (q.signum() != 0) {
            BigInteger n = floorDiv(p, q);
            out.terms.add(n);
            BigInteger rest = p.subtract(n.multiply(q));
            p = q;
            q = rest;
        }
        out.stop = 1;
        return out;
    }

    /** Whether (p and the root of d) by q is n or more, for a d that is no square. */
    static boolean atLeast(BigInteger p, BigInteger d, BigInteger q, BigInteger n) {
        BigInteger r = n.multiply(q).subtract(p);
        boolean rootIsMore = r.signum() < 0 || r.multiply(r).compareTo(d) < 0;
        return q.signum() > 0 == rootIsMore;
    }

    static BigInteger rootFloor(BigInteger p, BigInteger d, BigInteger q) {
        BigInteger low = BigInteger.TEN.pow(12).negate();
        BigInteger high = BigInteger.TEN.pow(12);
        while (high.subtract(low).compareTo(BigInteger.ONE) > 0) {
            BigInteger middle = floorDiv(low.add(high), BigInteger.TWO);
            if (atLeast(p, d, q, middle)) {
                low = middle;
            } else {
                high = middle;
            }
        }
        return low;
    }

    /** States (P, Q) of the 60 TERMS; for left(). */
    static List<BigInteger[]> rootStates(int p0, int d0, int q0) {
        BigInteger p = BigInteger.valueOf(p0);
        BigInteger d = BigInteger.valueOf(d0);
        BigInteger q = BigInteger.valueOf(q0);
        if (d.subtract(p.multiply(p)).remainder(q).signum() != 0) {
            BigInteger size = q.abs();
            d = d.multiply(q).multiply(q);
            p = p.multiply(size);
            q = q.multiply(size);
        }
        List<BigInteger[]> states = new ArrayList<>();
        for (int k = 0; k < 60; k++) {
            BigInteger n = rootFloor(p, d, q);
            states.add(new BigInteger[] {p, q, n});
            // 1 by ((p + root) by q less n) is q (root less p') by (d less p' p'), where p' is p less n q.
            BigInteger rest = p.subtract(n.multiply(q));
            BigInteger[] parts = d.subtract(rest.multiply(rest)).divideAndRemainder(q);
            if (parts[1].signum() != 0) {
                throw new AssertionError("a root's state isn't whole");
            }
            p = rest.negate();
            q = parts[0];
        }
        return states;
    }

    static boolean square(int d) {
        for (int r = 0; r <= 100; r++) {
            if (r * r == d) {
                return true;
            }
        }
        return false;
    }

    static Known rooted(int p, int d, int q) {
        if (square(d)) {
            int r = 0;
            while (r * r < d) {
                r++;
            }
            int sign = q < 0 ? -1 : 1;
            return divided(BigInteger.valueOf((long) sign * (p + r)), BigInteger.valueOf((long) sign * q));
        }
        Known out = new Known();
        for (BigInteger[] state : rootStates(p, d, q)) {
            out.terms.add(state[2]);
        }
        return out;
    }

    static Known toldRow(Def def) {
        Known out = new Known();
        for (int k = 0; k < 60; k++) {
            int place = k;
            if (k >= def.told.size()) {
                if (def.returnsTo < 0) {
                    out.stop = 1;
                    return out;
                }
                int period = def.told.size() - def.returnsTo;
                place = def.returnsTo + (k - def.returnsTo) % period;
            }
            out.terms.add(BigInteger.valueOf(def.told.get(place)));
        }
        return out;
    }

    static boolean beyond(BigInteger... numbers) {
        for (BigInteger n : numbers) {
            if (n.abs().compareTo(LIMIT) > 0) {
                return true;
            }
        }
        return false;
    }

    /** The one number that all quotients are, rounded down; null: they differ, or a divisor is 0 or of another sign. */
    static BigInteger common(BigInteger[] above, BigInteger[] below) {
        BigInteger q = null;
        for (int i = 0; i < above.length; i++) {
            if (below[i].signum() == 0 || below[i].signum() != below[0].signum()) {
                return null;
            }
            BigInteger one = floorDiv(above[i], below[i]);
            if (q != null && !q.equals(one)) {
                return null;
            }
            q = one;
        }
        return q;
    }

    static Known singled(Known x, int[] numbers) {
        Known out = new Known();
        BigInteger a = BigInteger.valueOf(numbers[0]);
        BigInteger b = BigInteger.valueOf(numbers[1]);
        BigInteger c = BigInteger.valueOf(numbers[2]);
        BigInteger d = BigInteger.valueOf(numbers[3]);
        boolean ended = false;
        int read = 0;
        int since = 0;
        while (true) {
            out.read = read;
            if (out.size() == 60) {
                out.stop = 0;
                return out;
            }
            if (ended && c.signum() == 0) {
                out.stop = 1;
                return out;
            }
            BigInteger q = null;
            if (ended) {
                q = floorDiv(a, c);
            } else if (read > 0) {
                q = common(new BigInteger[] {a, a.add(b)}, new BigInteger[] {c, c.add(d)});
            }
            if (q != null) {
                BigInteger nextC = a.subtract(q.multiply(c));
                BigInteger nextD = b.subtract(q.multiply(d));
                if (q.abs().compareTo(TERM_LIMIT) > 0 || beyond(c, d, nextC, nextD)) {
                    out.stop = 2;
                    return out;
                }
                a = c;
                b = d;
                c = nextC;
                d = nextD;
                out.terms.add(q);
                out.reads.add(new int[] {read, 0});
                since = 0;
                continue;
            }
            if (since == 100 || (read == x.size() && x.stop != 1)) {
                out.stop = 3;
                return out;
            }
            if (read == x.size()) {
                ended = true;
                b = a;
                d = c;
                continue;
            }
            BigInteger n = x.terms.get(read);
            BigInteger nextA = a.multiply(n).add(b);
            BigInteger nextC = c.multiply(n).add(d);
            b = a;
            d = c;
            a = nextA;
            c = nextC;
            read++;
            since++;
            if (beyond(a, b, c, d)) {
                out.read = read;
                out.stop = 2;
                return out;
            }
        }
    }

    static final int[][] STARTS = {
        {0, 1, 1, 0, 0, 0, 0, 1}, {0, 1, -1, 0, 0, 0, 0, 1}, {1, 0, 0, 0, 0, 0, 0, 1}, {0, 1, 0, 0, 0, 0, 1, 0}};

    static BigInteger[] corners(BigInteger[] v, int from) {
        BigInteger a = v[from];
        BigInteger b = v[from + 1];
        BigInteger c = v[from + 2];
        BigInteger d = v[from + 3];
        return new BigInteger[] {a, a.add(b), a.add(c), a.add(b).add(c).add(d)};
    }

    static Known doubled(Known x, Known y, int how) {
        Known out = new Known();
        BigInteger[] v = new BigInteger[8];
        for (int i = 0; i < 8; i++) {
            v[i] = BigInteger.valueOf(STARTS[how][i]);
        }
        Known[] sources = {x, y};
        int[] read = {0, 0};
        boolean[] ended = {false, false};
        int turn = 0;
        int since = 0;
        while (true) {
            out.read = read[0] + read[1];
            if (out.size() == 60) {
                out.stop = 0;
                return out;
            }
            if (ended[0] && ended[1] && v[4].signum() == 0) {
                out.stop = 1;
                return out;
            }
            BigInteger q = null;
            if ((read[0] > 0 || ended[0]) && (read[1] > 0 || ended[1])) {
                q = common(corners(v, 0), corners(v, 4));
            }
            if (q != null) {
                BigInteger[] next = new BigInteger[8];
                for (int i = 0; i < 4; i++) {
                    next[i] = v[i + 4];
                    next[i + 4] = v[i].subtract(q.multiply(v[i + 4]));
                }
                if (q.abs().compareTo(TERM_LIMIT) > 0 || beyond(next)) {
                    out.stop = 2;
                    return out;
                }
                v = next;
                out.terms.add(q);
                out.reads.add(new int[] {read[0], read[1]});
                since = 0;
                continue;
            }
            if (since == 100) {
                out.stop = 3;
                return out;
            }
            int who = ended[turn] ? 1 - turn : turn;
            turn = 1 - who;
            Known source = sources[who];
            boolean ends = read[who] == source.size();
            if (ends && source.stop != 1) {
                out.stop = 3;
                return out;
            }
            BigInteger n = ends ? null : source.terms.get(read[who]);
            v = who == 0 ? readX(v, n) : readY(v, n);
            if (ends) {
                ended[who] = true;
            } else {
                read[who]++;
                since++;
                if (beyond(v)) {
                    out.read = read[0] + read[1];
                    out.stop = 2;
                    return out;
                }
            }
        }
    }

    static BigInteger mix(BigInteger a, BigInteger n, BigInteger b) {
        return n == null ? a : a.multiply(n).add(b);
    }

    static BigInteger[] readX(BigInteger[] v, BigInteger n) {
        return new BigInteger[] {
            mix(v[0], n, v[2]), mix(v[1], n, v[3]), v[0], v[1], mix(v[4], n, v[6]), mix(v[5], n, v[7]), v[4], v[5]};
    }

    static BigInteger[] readY(BigInteger[] v, BigInteger n) {
        return new BigInteger[] {
            mix(v[0], n, v[1]), v[0], mix(v[2], n, v[3]), v[2], mix(v[4], n, v[5]), v[4], mix(v[6], n, v[7]), v[6]};
    }

    // ---- texts

    int feed(int a, int b, int c, int d, int e) {
        if (tape.size() > 180) {
            return -1;
        }
        for (int n : new int[] {a, b, c, d, e}) {
            for (int shift = 24; shift >= 0; shift -= 8) {
                tape.add((n >> shift) & 255);
            }
        }
        return tape.size();
    }

    static final class Token {
        final String text;
        final int place;

        Token(String text, int place) {
            this.text = text;
            this.place = place;
        }

        boolean figures() {
            return !text.isEmpty() && Character.isDigit(text.charAt(0)) && text.charAt(0) < 128;
        }
    }

    List<Token> tokens;
    int at;

    List<Token> tokensOf(int n) {
        List<Token> list = new ArrayList<>();
        int i = 0;
        while (i < n) {
            char c = (char) (int) tape.get(i);
            if (c == ' ' || c == '\n') {
                i++;
                continue;
            }
            int j = i + 1;
            if (c >= '0' && c <= '9') {
                while (j < n && tape.get(j) >= '0' && tape.get(j) <= '9') {
                    j++;
                }
            } else if (c >= 'a' && c <= 'z') {
                while (j < n && tape.get(j) >= 'a' && tape.get(j) <= 'z') {
                    j++;
                }
            }
            StringBuilder text = new StringBuilder();
            for (int k = i; k < j; k++) {
                text.append((char) (int) tape.get(k));
            }
            list.add(new Token(text.toString(), i));
            i = j;
        }
        list.add(new Token("", n));
        return list;
    }

    Token next() {
        return tokens.get(at);
    }

    boolean next(String text) {
        return next().text.equals(text);
    }

    Fault misplaced() {
        return new Fault(1, next().place);
    }

    boolean accept(String text) {
        if (next(text)) {
            at++;
            return true;
        }
        return false;
    }

    void must(String text) throws Fault {
        if (!next(text)) {
            throw misplaced();
        }
        if (!text.isEmpty()) {
            at++;
        }
    }

    int number(int least) throws Fault {
        if (!next().figures()) {
            throw misplaced();
        }
        BigInteger value = new BigInteger(next().text);
        if (value.compareTo(BigInteger.valueOf(least)) < 0 || value.compareTo(BigInteger.valueOf(9999)) > 0) {
            throw new Fault(2, next().place);
        }
        at++;
        return value.intValueExact();
    }

    void badText(int row, int n) {
        if (noRow(row) || n < 0 || n > tape.size()) {
            throw new IllegalArgumentException();
        }
    }

    int told(int row, int n) {
        badText(row, n);
        tokens = tokensOf(n);
        at = 0;
        tape.clear();
        faultPlace = -1;
        Def def = new Def();
        def.kind = 2;
        try {
            must("[");
            boolean minus = accept("-");
            int whole = number(0);
            def.told.add(minus ? -whole : whole);
            while (accept(";") || accept(",")) {
                if (accept("(")) {
                    def.returnsTo = def.told.size();
                    do {
                        def.told.add(number(1));
                    } while (accept(";") || accept(","));
                    must(")");
                    break;
                }
                def.told.add(number(1));
            }
            must("]");
            must("");
        } catch (Fault fault) {
            faultPlace = fault.place;
            return -10 - fault.code;
        }
        act(row, def);
        return def.told.size();
    }

    interface Test {
        boolean holds(Known row, int k);
    }

    interface Value {
        BigInteger of(Known row, int k);
    }

    int ask(int row, int n) {
        badText(row, n);
        tokens = tokensOf(n);
        at = 0;
        tape.clear();
        faultPlace = -1;
        boolean many;
        Test test;
        try {
            many = accept("many");
            if (!many) {
                must("first");
            }
            test = test(0);
            must("");
        } catch (Fault fault) {
            faultPlace = fault.place;
            return -1000000000 - fault.code;
        }
        Known known = known(row);
        int held = 0;
        for (int k = 0; k < known.size(); k++) {
            if (test.holds(known, k)) {
                if (!many) {
                    return k;
                }
                held++;
            }
        }
        return many ? held : -1;
    }

    Test test(int open) throws Fault {
        Test one = both(open);
        while (accept("or")) {
            Test left = one;
            Test right = both(open);
            one = (row, k) -> left.holds(row, k) || right.holds(row, k);
        }
        return one;
    }

    Test both(int open) throws Fault {
        Test one = fact(open);
        while (accept("and")) {
            Test left = one;
            Test right = fact(open);
            one = (row, k) -> left.holds(row, k) && right.holds(row, k);
        }
        return one;
    }

    Test fact(int open) throws Fault {
        if (next("not") || next("{")) {
            if (open == 6) {
                throw new Fault(3, next().place);
            }
            if (accept("not")) {
                Test inner = fact(open + 1);
                return (row, k) -> !inner.holds(row, k);
            }
            must("{");
            Test inner = test(open + 1);
            must("}");
            return inner;
        }
        Value left = value();
        String sign = next().text;
        if (!sign.equals("<") && !sign.equals("=") && !sign.equals(">")) {
            throw misplaced();
        }
        at++;
        Value right = value();
        int due = sign.equals("<") ? -1 : sign.equals("=") ? 0 : 1;
        return (row, k) -> left.of(row, k).compareTo(right.of(row, k)) == due;
    }

    Value value() throws Fault {
        if (accept("place")) {
            return (row, k) -> BigInteger.valueOf(k);
        }
        if (accept("term")) {
            return (row, k) -> row.terms.get(k);
        }
        if (accept("ahead")) {
            return (row, k) -> k == 0 ? BigInteger.ZERO : row.terms.get(k - 1);
        }
        if (accept("sum")) {
            return (row, k) -> {
                BigInteger sum = BigInteger.ZERO;
                for (int i = 0; i <= k; i++) {
                    sum = sum.add(row.terms.get(i));
                }
                return sum;
            };
        }
        if (accept("behind")) {
            return (row, k) -> BigInteger.valueOf(row.size() - 1 - k);
        }
        BigInteger figures = BigInteger.valueOf(number(0));
        return (row, k) -> figures;
    }

    // ---- asking

    int count(int what) {
        if (what < 0 || what > 7) {
            throw new NoSuchElementException();
        }
        if (what == 0) {
            return acts.size();
        }
        if (what == 1) {
            return tape.size();
        }
        int found = 0;
        for (int i = 0; i < 10; i++) {
            if (what <= 3 ? defs[i].kind == what + 1 : known(i).stop == what - 4) {
                found++;
            }
        }
        return found;
    }

    int of(int row, int what) {
        Known known = known(row);
        switch (what) {
            case 0:
                return defs[row].kind;
            case 1:
                return known.size();
            case 2:
                return known.stop;
            case 3:
                return known.read;
            case 4:
                BigInteger most = BigInteger.ZERO;
                for (int k = 1; k < known.size(); k++) {
                    most = most.max(known.terms.get(k));
                }
                return most.intValueExact();
            case 5:
                return known.terms.stream().reduce(BigInteger.ZERO, BigInteger::add).intValue();
            case 6:
                int found = 0;
                for (Def def : defs) {
                    found += def.i == row || def.j == row ? 1 : 0;
                }
                return found;
            default:
                throw new NoSuchElementException();
        }
    }

    Known knownTo(int row, int k) {
        Known known = known(row);
        if (k < 0 || k >= known.size()) {
            throw new NoSuchElementException();
        }
        return known;
    }

    int term(int row, int k) {
        return knownTo(row, k).term(k);
    }

    int read(int row, int k, boolean second) {
        Known known = knownTo(row, k);
        if (defs[row].kind < (second ? 4 : 3)) {
            throw new NoSuchElementException();
        }
        return known.reads.get(k)[second ? 1 : 0];
    }

    /** Above and below of CONVERGENT k; null: beyond. */
    static BigInteger[] convergentOf(Known row, int k) {
        if (k == -1) {
            return new BigInteger[] {BigInteger.ONE, BigInteger.ZERO};
        }
        if (k == -2) {
            return new BigInteger[] {BigInteger.ZERO, BigInteger.ONE};
        }
        BigInteger[] ahead = {BigInteger.ZERO, BigInteger.ONE};
        BigInteger[] now = {BigInteger.ONE, BigInteger.ZERO};
        for (int i = 0; i <= k; i++) {
            BigInteger n = row.terms.get(i);
            BigInteger[] next = {now[0].multiply(n).add(ahead[0]), now[1].multiply(n).add(ahead[1])};
            if (beyond(next)) {
                return null;
            }
            ahead = now;
            now = next;
        }
        return now;
    }

    long convergent(int row, int k, boolean lower) {
        BigInteger[] pair = convergentOf(knownTo(row, k), k);
        return pair == null ? -1 : pair[lower ? 1 : 0].longValueExact();
    }

    int nearest(int row, int most) {
        Known known = knownTo(row, 0);
        if (most < 1) {
            throw new IllegalArgumentException();
        }
        for (int k = known.size() - 1; k >= 0; k--) {
            BigInteger[] pair = convergentOf(known, k);
            if (pair != null && pair[1].compareTo(BigInteger.valueOf(most)) <= 0) {
                return k;
            }
        }
        throw new AssertionError("no convergent");
    }

    long mediant(int row, int k, int m, boolean lower) {
        Known known = known(row);
        if (k < 0 || (long) k + 2 >= known.size() || m < 0 || m > known.term(k + 2)) {
            throw new NoSuchElementException();
        }
        BigInteger[] one = convergentOf(known, k);
        BigInteger[] two = convergentOf(known, k + 1);
        if (one == null || two == null) {
            return -1;
        }
        BigInteger times = BigInteger.valueOf(m);
        BigInteger above = one[0].add(times.multiply(two[0]));
        BigInteger below = one[1].add(times.multiply(two[1]));
        return beyond(above, below) ? -1 : (lower ? below : above).longValueExact();
    }

    int compare(int row, int other) {
        Known one = known(row);
        Known two = known(other);
        for (int k = 0;; k++) {
            boolean oneOut = k >= one.size();
            boolean twoOut = k >= two.size();
            if ((oneOut && one.stop != 1) || (twoOut && two.stop != 1)) {
                return -2;
            }
            if (oneOut && twoOut) {
                return 0;
            }
            BigInteger any = BigInteger.TEN.pow(30);
            int sign = (oneOut ? any : one.terms.get(k)).compareTo(twoOut ? any : two.terms.get(k));
            if (sign != 0) {
                return k % 2 == 0 ? sign : -sign;
            }
        }
    }

    int alike(int row, int other) {
        Known one = known(row);
        Known two = known(other);
        int k = 0;
        while (k < one.size() && k < two.size() && one.term(k) == two.term(k)) {
            k++;
        }
        return k;
    }

    static int[] againOf(Known row) {
        if (row.stop != 0) {
            return null;
        }
        for (int t = 0; t <= 60; t++) {
            for (int d = 1; t + 2 * d <= 60; d++) {
                boolean same = true;
                for (int i = t + d; i < 60; i++) {
                    same &= row.term(i) == row.term(i - d);
                }
                if (same) {
                    return new int[] {t, d};
                }
            }
        }
        return null;
    }

    static void part(int what) {
        if (what != 0 && what != 1) {
            throw new NoSuchElementException();
        }
    }

    int again(int row, int what) {
        Known known = known(row);
        part(what);
        int[] found = againOf(known);
        return found == null ? -1 : found[what];
    }

    int tails(int row, int other, int what) {
        Known one = known(row);
        Known two = known(other);
        part(what);
        if (one.stop != 0 || two.stop != 0) {
            return -1;
        }
        int[] best = null;
        for (int k = 0; k < 60; k++) {
            for (int l = 0; l < 60; l++) {
                int both = Math.min(60 - k, 60 - l);
                if (both >= 20 && one.terms.subList(k, k + both).equals(two.terms.subList(l, l + both))
                    && (best == null || k + l < best[0] + best[1])) {
                    best = new int[] {k, l};
                }
            }
        }
        return best == null ? -1 : best[what];
    }

    int floor(int row, int n) {
        Known known = known(row);
        if (n < 1 || n > 9999) {
            throw new IllegalArgumentException();
        }
        Known out = singled(known, new int[] {n, 0, 0, 1});
        return out.size() == 0 ? -1000000000 : out.term(0);
    }

    int would(int row, int k, int a, int b, int c, int d) {
        Known known = known(row);
        if (k < 0 || k > 59) {
            throw new NoSuchElementException();
        }
        if (badSingle(a, b, c, d)) {
            throw new IllegalArgumentException();
        }
        Known out = singled(known, new int[] {a, b, c, d});
        return k < out.size() ? out.term(k) : -1000000000;
    }

    int often(int row, int v) {
        Known known = known(row);
        int found = 0;
        for (int k = 1; k < known.size(); k++) {
            found += known.term(k) == v ? 1 : 0;
        }
        return found;
    }

    int left(int row, int k, int what) {
        known(row);
        Def def = defs[row];
        if (def.kind != 1 || square(def.numbers[1]) || k < 0 || k > 59) {
            throw new NoSuchElementException();
        }
        part(what);
        return rootStates(def.numbers[0], def.numbers[1], def.numbers[2]).get(k)[what].intValueExact();
    }

    int say(int row, int n) {
        Known known = known(row);
        if (n < 1 || n > 60) {
            throw new IllegalArgumentException();
        }
        int[] found = againOf(known);
        int start = found == null ? 0 : Math.max(1, found[0]);
        boolean returns = found != null && start + found[1] <= n;
        int shown = returns ? start + found[1] : Math.min(n, known.size());
        String text = "[";
        for (int k = 0; k < shown; k++) {
            text += k == 0 ? "" : k == 1 ? ";" : ",";
            text += returns && k == start ? "(" : "";
            text += known.terms.get(k);
        }
        if (returns) {
            text += ")";
        } else if (shown < known.size() || known.stop != 1) {
            text += "~";
        }
        said = text + "]";
        return said.length();
    }

    int said(int i) {
        return i < 0 || i >= said.length() ? -1 : said.charAt(i);
    }
}
