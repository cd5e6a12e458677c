import java.util.NoSuchElementException;

/** Continued fractions term by term; the document ../shared/DOC.md says what each call promises. */
public final class TermRows {
    public static final int NONE = -1;
    public static final int HIDDEN = -1000000000;

    private static final int ROWS = 10;
    private static final int MOST_TERMS = 60;
    private static final int MOST_BYTES = 200;
    private static final int MOST_ACTS = 16;
    private static final int MOST_READ = 100;
    private static final int MOST_OPEN = 6;
    private static final int LEAST_TAIL = 20;
    private static final int MOST_FIGURE = 9999;
    private static final long LIMIT = 1000000000000000L;
    private static final long BEYOND = LIMIT + 1;
    private static final long MOST_TERM = 1000000000L;

    // 60 TERMS let out, 120 read, two ends and the stop itself: no reckoning takes as many steps.
    private static final int MOST_STEPS = 200;
    // 60 TERMS of at most ten figures and a sign, with marks between and around them.
    private static final int MOST_SAID = 800;
    // Two places of a ROW in one number; a place is below 64.
    private static final int PAIR = 64;

    private static final int FRACTION = 0;
    private static final int ROOT = 1;
    private static final int TOLD = 2;
    private static final int SINGLE = 3;
    private static final int DOUBLE = 4;

    private static final int CUT = 0;
    private static final int ENDS = 1;
    private static final int SPENT = 2;
    private static final int STUCK = 3;
    private static final int GOES_ON = 4;

    private static final int MISPLACED = 1;
    private static final int UNFIT_NUMBER = 2;
    private static final int TOO_DEEP = 3;

    private final Row[] rows = new Row[ROWS];
    private final Row trial = new Row(NONE);
    private final History history = new History();
    private final Reckoner reckoner = new Reckoner();
    private final Surd surd = new Surd();
    private final Ladder ladder = new Ladder();
    private final Tape tape = new Tape();
    private final RowText rowText = new RowText(tape);
    private final Question question = new Question(tape);
    private final Saying saying = new Saying();

    public TermRows() {
        for (int i = 0; i < ROWS && i < rows.length; i++) {
            rows[i] = new Row(i);
        }
    }

    public int feed(int a, int b, int c, int d, int e) {
        if (tape.filled + 20 > MOST_BYTES) {
            return NONE;
        }
        tape.addFour(a);
        tape.addFour(b);
        tape.addFour(c);
        tape.addFour(d);
        tape.addFour(e);
        return tape.filled;
    }

    public int told(int row, int n) throws IllegalArgumentException {
        Row changed = find(row);
        if (changed == null || n < 0 || n > tape.filled) {
            throw new IllegalArgumentException("no such row, or not so many bytes");
        }
        tape.open(n);
        rowText.parse();
        tape.empty();
        if (tape.flaw != 0) {
            return -10 - tape.flaw;
        }
        Made made = act(changed);
        made.become(TOLD, 0, 0, 0, 0, 0, 0);
        rowText.tellTo(made);
        return rowText.numbers;
    }

    public int ask(int row, int n) throws IllegalArgumentException {
        if (find(row) == null || n < 0 || n > tape.filled) {
            throw new IllegalArgumentException("no such row, or not so many bytes");
        }
        tape.open(n);
        int answer = question.answer(settled(row));
        tape.empty();
        return answer;
    }

    public int fault() {
        return tape.flawPlace;
    }

    public boolean fraction(int row, int p, int q) {
        Row changed = find(row);
        if (changed == null || !within(p, MOST_FIGURE) || q < 1 || q > MOST_FIGURE) {
            return false;
        }
        act(changed).become(FRACTION, 0, 0, p, q, 0, 0);
        return true;
    }

    public boolean root(int row, int p, int d, int q) {
        Row changed = find(row);
        if (changed == null || !within(p, 999) || d < 0 || d > MOST_FIGURE) {
            return false;
        }
        if (q == 0 || !within(q, 99)) {
            return false;
        }
        act(changed).become(ROOT, 0, 0, p, d, q, 0);
        return true;
    }

    public boolean single(int row, int i, int a, int b, int c, int d) {
        Row changed = find(row);
        if (changed == null || find(i) == null || i >= row || !fitsSingle(a, b, c, d)) {
            return false;
        }
        act(changed).become(SINGLE, i, i, a, b, c, d);
        return true;
    }

    public boolean join(int row, int how, int i, int j) {
        Row changed = find(row);
        if (changed == null || find(i) == null || find(j) == null) {
            return false;
        }
        if (how < 0 || how > 3 || i >= row || j >= row) {
            return false;
        }
        act(changed).become(DOUBLE, i, j, how, 0, 0, 0);
        return true;
    }

    public int undo() {
        Row back = history.takeBack();
        if (back == null) {
            return NONE;
        }
        markStale(back);
        return history.size;
    }

    public int count(int what) throws NoSuchElementException {
        switch (what) {
            case 0:
                return history.size;
            case 1:
                return tape.filled;
            case 2:
                return rowsOfKind(SINGLE);
            case 3:
                return rowsOfKind(DOUBLE);
            case 4:
                return rowsThatStop(CUT);
            case 5:
                return rowsThatStop(ENDS);
            case 6:
                return rowsThatStop(SPENT);
            case 7:
                return rowsThatStop(STUCK);
            default:
                throw new NoSuchElementException("no such count");
        }
    }

    public int of(int row, int what) throws NoSuchElementException {
        Row asked = settled(row);
        switch (what) {
            case 0:
                return asked.made.kind;
            case 1:
                return asked.known;
            case 2:
                return asked.stop;
            case 3:
                return asked.reads;
            case 4:
                return asked.greatestBehindFirst();
            case 5:
                return asked.wrappedSum();
            case 6:
                return rowsMadeOf(row);
            default:
                throw new NoSuchElementException("no such fact of a row");
        }
    }

    public int term(int row, int k) throws NoSuchElementException {
        Row asked = settled(row);
        requireTerm(asked, k);
        return asked.termAt(k);
    }

    public int read(int row, int k, boolean second) throws NoSuchElementException {
        Row asked = settled(row);
        requireTerm(asked, k);
        int kind = asked.made.kind;
        if (kind != DOUBLE && (second || kind != SINGLE)) {
            throw new NoSuchElementException("the row reads no such row");
        }
        return second ? asked.secondReadsAt(k) : asked.firstReadsAt(k);
    }

    public long convergent(int row, int k, boolean lower) throws NoSuchElementException {
        Row asked = settled(row);
        requireTerm(asked, k);
        ladder.climb(asked, k);
        if (ladder.beyond) {
            return NONE;
        }
        return lower ? ladder.below : ladder.above;
    }

    public int nearest(int row, int most) throws NoSuchElementException, IllegalArgumentException {
        Row asked = settled(row);
        requireTerm(asked, 0);
        if (most < 1) {
            throw new IllegalArgumentException("most is below 1");
        }
        ladder.start();
        int best = 0;
        for (int k = 0; k < asked.known; k++) {
            ladder.climbOne(asked.termAt(k));
            if (ladder.beyond || ladder.below > most) {
                break;
            }
            best = k;
        }
        return best;
    }

    public long mediant(int row, int k, int m, boolean lower) throws NoSuchElementException {
        Row asked = settled(row);
        if (k < 0 || k >= asked.known - 2 || m < 0 || m > asked.termAt(k + 2)) {
            throw new NoSuchElementException("no such mediant");
        }
        ladder.climb(asked, k + 1);
        if (ladder.beyond) {
            return NONE;
        }
        long above = grown(ladder.above, m, ladder.aboveAhead);
        long below = grown(ladder.below, m, ladder.belowAhead);
        if (above == BEYOND || below == BEYOND) {
            return NONE;
        }
        return lower ? below : above;
    }

    public int compare(int row, int other) throws NoSuchElementException {
        Row one = settled(row);
        Row two = settled(other);
        int k = placesAlike(one, two);
        if (one.unknownAt(k) || two.unknownAt(k)) {
            return -2;
        }
        boolean oneEnds = !one.knows(k);
        boolean twoEnds = !two.knows(k);
        if (oneEnds && twoEnds) {
            return 0;
        }
        boolean less = !oneEnds && (twoEnds || one.termAt(k) < two.termAt(k));
        return less == (k % 2 == 0) ? -1 : 1;
    }

    public int alike(int row, int other) throws NoSuchElementException {
        return placesAlike(settled(row), settled(other));
    }

    public int again(int row, int what) throws NoSuchElementException {
        Row asked = settled(row);
        if (what != 0 && what != 1) {
            throw new NoSuchElementException("no such part of again");
        }
        return partOfPair(comingAgain(asked), what);
    }

    public int tails(int row, int other, int what) throws NoSuchElementException {
        Row one = settled(row);
        Row two = settled(other);
        if (what != 0 && what != 1) {
            throw new NoSuchElementException("no such part of tails");
        }
        return partOfPair(tailsAlike(one, two), what);
    }

    public int floor(int row, int n) throws NoSuchElementException, IllegalArgumentException {
        Row asked = settled(row);
        if (n < 1 || n > MOST_FIGURE) {
            throw new IllegalArgumentException("n isn't 1 to 9999");
        }
        reckoner.startSingle(asked, n, 0, 0, 1);
        return triedTerm(0);
    }

    public int would(int row, int k, int a, int b, int c, int d) throws NoSuchElementException, IllegalArgumentException {
        Row asked = settled(row);
        if (k < 0 || k >= MOST_TERMS) {
            throw new NoSuchElementException("k isn't 0 to 59");
        }
        if (!fitsSingle(a, b, c, d)) {
            throw new IllegalArgumentException("no such single");
        }
        reckoner.startSingle(asked, a, b, c, d);
        return triedTerm(k);
    }

    public int often(int row, int v) throws NoSuchElementException {
        Row asked = settled(row);
        int found = 0;
        for (int k = 1; k < asked.known; k++) {
            if (asked.termAt(k) == v) {
                found++;
            }
        }
        return found;
    }

    public int left(int row, int k, int what) throws NoSuchElementException {
        Row asked = find(row);
        if (asked == null || asked.made.kind != ROOT || isSquare(asked.made.b)) {
            throw new NoSuchElementException("no such root");
        }
        if (k < 0 || k >= MOST_TERMS || (what != 0 && what != 1)) {
            throw new NoSuchElementException("no such state");
        }
        surd.start(asked.made.a, asked.made.b, asked.made.c);
        for (int i = 0; i < k; i++) {
            surd.leave(surd.whole());
        }
        return (int) (what == 0 ? surd.p : surd.q);
    }

    public int say(int row, int n) throws NoSuchElementException, IllegalArgumentException {
        Row asked = settled(row);
        if (n < 1 || n > MOST_TERMS) {
            throw new IllegalArgumentException("n isn't 1 to 60");
        }
        int found = comingAgain(asked);
        int start = Math.max(1, partOfPair(found, 0));
        int period = partOfPair(found, 1);
        saying.start();
        if (found != NONE && start + period <= n) {
            saying.putReturning(asked, start, period);
        } else {
            saying.putFirst(asked, n);
        }
        return saying.length;
    }

    public int said(int i) {
        return saying.byteAt(i);
    }

    private static boolean within(int number, int size) {
        return number >= -size && number <= size;
    }

    private static boolean fitsSingle(int a, int b, int c, int d) {
        if (c == 0 && d == 0) {
            return false;
        }
        return within(a, 999) && within(b, 999) && within(c, 999) && within(d, 999);
    }

    /** a times n and b; BEYOND, if that is beyond the limit. a and b are within it. */
    private static long grown(long a, long n, long b) {
        if (n != 0) {
            // Past twice the limit b can't bring the product back, and a long might not hold it.
            long most = 2 * LIMIT / (n < 0 ? -n : n);
            if (a > most || a < -most) {
                return BEYOND;
            }
        }
        long sum = a * n + b;
        return sum > LIMIT || sum < -LIMIT ? BEYOND : sum;
    }

    /** The root of d, rounded down; d is below 2 to the 28. */
    private static long wholeRoot(long d) {
        long root = 0;
        for (long bit = 8192; bit > 0; bit >>= 1) {
            if ((root + bit) * (root + bit) <= d) {
                root += bit;
            }
        }
        return root;
    }

    private static boolean isSquare(long d) {
        long root = wholeRoot(d);
        return root * root == d;
    }

    private Row find(int row) {
        return row >= 0 && row < rows.length ? rows[row] : null;
    }

    /**
     * The row, reckoned if need be. What a row is made of has a lesser number, so going up finds
     * each source reckoned already.
     */
    private Row settled(int row) throws NoSuchElementException {
        Row asked = find(row);
        if (asked == null) {
            throw new NoSuchElementException("no such row");
        }
        for (int i = 0; i <= row && i < rows.length; i++) {
            Row next = rows[i];
            if (next != null && next.stale) {
                reckon(next);
                next.stale = false;
            }
        }
        return asked;
    }

    private static void requireTerm(Row row, int k) throws NoSuchElementException {
        if (!row.knows(k)) {
            throw new NoSuchElementException("the term isn't known");
        }
    }

    private void reckon(Row row) {
        Made made = row.made;
        row.clear();
        switch (made.kind) {
            case FRACTION:
                row.divide(made.a, made.b);
                break;
            case ROOT:
                reckonRoot(row);
                break;
            case TOLD:
                row.copyTold(made);
                break;
            case SINGLE:
                reckoner.startSingle(find(made.i), made.a, made.b, made.c, made.d);
                reckoner.run(row, MOST_TERMS);
                break;
            default:
                reckoner.startDouble(made.a, find(made.i), find(made.j));
                reckoner.run(row, MOST_TERMS);
                break;
        }
    }

    private void reckonRoot(Row row) {
        Made made = row.made;
        if (isSquare(made.b)) {
            long above = made.a + wholeRoot(made.b);
            row.divide(made.c < 0 ? -above : above, made.c < 0 ? -made.c : made.c);
            return;
        }
        surd.start(made.a, made.b, made.c);
        for (int k = 0; k < MOST_TERMS; k++) {
            long whole = surd.whole();
            row.add((int) whole, 0, 0);
            surd.leave(whole);
        }
        row.stop = CUT;
    }

    private int triedTerm(int k) {
        trial.clear();
        reckoner.run(trial, k + 1);
        return trial.knows(k) ? trial.termAt(k) : HIDDEN;
    }

    /** Gives the row another thing to be, for the caller to fill; what it was can be undone. */
    private Made act(Row row) {
        history.keep(row);
        markStale(row);
        return row.made;
    }

    private void markStale(Row changed) {
        changed.stale = true;
        for (int i = changed.place + 1; i > 0 && i < rows.length; i++) {
            Row row = rows[i];
            if (row != null && (isStaleSource(row, row.made.i) || isStaleSource(row, row.made.j))) {
                row.stale = true;
            }
        }
    }

    private boolean isStaleSource(Row row, int source) {
        Row from = find(source);
        return from != null && from.stale && row.made.kind >= SINGLE;
    }

    private int rowsOfKind(int kind) {
        int found = 0;
        for (int i = 0; i < rows.length; i++) {
            if (rows[i] != null && rows[i].made.kind == kind) {
                found++;
            }
        }
        return found;
    }

    private int rowsThatStop(int stop) {
        settled(ROWS - 1);
        int found = 0;
        for (int i = 0; i < rows.length; i++) {
            if (rows[i] != null && rows[i].stop == stop) {
                found++;
            }
        }
        return found;
    }

    private int rowsMadeOf(int source) {
        int found = 0;
        for (int i = 0; i < rows.length; i++) {
            Made made = rows[i] == null ? null : rows[i].made;
            if (made != null && made.kind >= SINGLE && (made.i == source || made.j == source)) {
                found++;
            }
        }
        return found;
    }

    private static int placesAlike(Row one, Row two) {
        int k = 0;
        while (k < MOST_TERMS && one.knows(k) && two.knows(k) && one.termAt(k) == two.termAt(k)) {
            k++;
        }
        return k;
    }

    /** The least k from which on the TERMS of one are those of two from k less shift on; both are CUT. */
    private static int alikeFrom(Row one, Row two, int shift) {
        int k = Math.min(MOST_TERMS, MOST_TERMS + shift);
        while (k > 0 && k > shift && one.termAt(k - 1) == two.termAt(k - 1 - shift)) {
            k--;
        }
        return k;
    }

    /** Where and with how many a row comes AGAIN, as a pair; NONE. */
    private static int comingAgain(Row row) {
        if (row.stop != CUT) {
            return NONE;
        }
        int best = MOST_TERMS;
        int period = 0;
        for (int d = 1; 2 * d <= MOST_TERMS; d++) {
            int t = alikeFrom(row, row, -d);
            if (t + 2 * d <= MOST_TERMS && t < best) {
                best = t;
                period = d;
            }
        }
        return period == 0 ? NONE : best * PAIR + period;
    }

    /**
     * From where on two rows have TAILS ALIKE, as a pair; NONE. Of two shifts with as much together the
     * lesser one has the lesser k, and it comes first.
     */
    private static int tailsAlike(Row one, Row two) {
        if (one.stop != CUT || two.stop != CUT) {
            return NONE;
        }
        int latest = MOST_TERMS - LEAST_TAIL;
        int best = NONE;
        int together = 2 * latest + 1;
        for (int shift = -latest; shift <= latest; shift++) {
            int k = alikeFrom(one, two, shift);
            int l = k - shift;
            if (k <= latest && l <= latest && k + l < together) {
                together = k + l;
                best = k * PAIR + l;
            }
        }
        return best;
    }

    private static int partOfPair(int pair, int part) {
        if (pair == NONE) {
            return NONE;
        }
        return part == 0 ? pair / PAIR : pair % PAIR;
    }

    /** What a row is: its kind and the numbers and rows, or the told TERMS, that it is made of. */
    private static final class Made {
        int kind = FRACTION;
        int i;
        int j;
        int a;
        int b = 1;
        int c;
        int d;
        int toldKnown;
        final int[] toldTerms = new int[MOST_TERMS];

        void become(int newKind, int newI, int newJ, int newA, int newB, int newC, int newD) {
            kind = newKind;
            i = newI;
            j = newJ;
            a = newA;
            b = newB;
            c = newC;
            d = newD;
        }
    }

    /** A row: what it is, and what is known of it while it isn't stale. */
    private static final class Row {
        final int place;
        final int[] terms = new int[MOST_TERMS];
        final int[] firstReads = new int[MOST_TERMS];
        final int[] secondReads = new int[MOST_TERMS];
        Made made = new Made();
        boolean stale = true;
        int known;
        int stop;
        int reads;

        Row(int place) {
            this.place = place;
        }

        void clear() {
            known = 0;
            stop = CUT;
            reads = 0;
        }

        void add(int value, int firstRead, int secondRead) {
            if (known >= 0 && known < MOST_TERMS) {
                terms[known] = value;
                firstReads[known] = firstRead;
                secondReads[known] = secondRead;
                known++;
            }
        }

        boolean knows(int k) {
            return k >= 0 && k < known;
        }

        /** There it has no TERM and doesn't END either. */
        boolean unknownAt(int k) {
            return !knows(k) && stop != ENDS;
        }

        int termAt(int k) {
            return k >= 0 && k < terms.length ? terms[k] : 0;
        }

        int firstReadsAt(int k) {
            return k >= 0 && k < firstReads.length ? firstReads[k] : 0;
        }

        int secondReadsAt(int k) {
            return k >= 0 && k < secondReads.length ? secondReads[k] : 0;
        }

        /** The TERMS of above by below, which is above 0. */
        void divide(long above, long below) {
            long p = above;
            long q = below;
            for (int k = 0; k < MOST_TERMS && q != 0; k++) {
                long whole = Math.floorDiv(p, q);
                add((int) whole, 0, 0);
                long rest = p - whole * q;
                p = q;
                q = rest;
            }
            stop = known < MOST_TERMS ? ENDS : CUT;
        }

        void copyTold(Made from) {
            for (int k = 0; k < from.toldKnown && k < from.toldTerms.length; k++) {
                add(from.toldTerms[k], 0, 0);
            }
            stop = known < MOST_TERMS ? ENDS : CUT;
        }

        int greatestBehindFirst() {
            int greatest = 0;
            for (int k = 1; k < known; k++) {
                greatest = Math.max(greatest, termAt(k));
            }
            return greatest;
        }

        int wrappedSum() {
            int sum = 0;
            for (int k = 0; k < known; k++) {
                sum += termAt(k);
            }
            return sum;
        }
    }

    /** The latest acts: which row changed, and what it was. */
    private static final class History {
        // 16 slots, so this mask makes a lawful index of any number.
        private static final int MASK = MOST_ACTS - 1;

        private final Row[] changed = new Row[MOST_ACTS];
        private final Made[] was = new Made[MOST_ACTS];
        private int oldest;
        int size;

        History() {
            for (int i = 0; i < MOST_ACTS && i < was.length; i++) {
                was[i] = new Made();
            }
        }

        /** Keeps what the row is, and gives it the slot's spare one instead. */
        void keep(Row row) {
            int slot = (oldest + size) & MASK;
            if (slot >= changed.length) {
                return;
            }
            if (size == MOST_ACTS) {
                oldest = (oldest + 1) & MASK;
            } else {
                size++;
            }
            changed[slot] = row;
            swap(row, slot);
        }

        /** The row that is again what it was; null, if no act can be undone. */
        Row takeBack() {
            if (size <= 0) {
                return null;
            }
            size--;
            int slot = (oldest + size) & MASK;
            Row row = slot < changed.length ? changed[slot] : null;
            if (row != null) {
                swap(row, slot);
            }
            return row;
        }

        private void swap(Row row, int slot) {
            if (slot < 0 || slot >= was.length) {
                return;
            }
            Made other = was[slot];
            if (other != null) {
                was[slot] = row.made;
                row.made = other;
            }
        }
    }

    /** (P and the root of D) by Q for a D that is no square, and what is left of it term by term. */
    private static final class Surd {
        long p;
        long d;
        long q;
        long root;

        void start(long newP, long newD, long newQ) {
            p = newP;
            d = newD;
            q = newQ;
            if (q != 0 && (d - p * p) % q != 0) {
                long size = Math.abs(q);
                p *= size;
                d *= size * size;
                q *= size;
            }
            root = wholeRoot(d);
        }

        /** The value rounded down: the root lies between two whole numbers, a negative Q needs the upper. */
        long whole() {
            if (q == 0) {
                return 0;
            }
            return Math.floorDiv(q > 0 ? p + root : p + root + 1, q);
        }

        void leave(long whole) {
            if (q == 0) {
                return;
            }
            p = whole * q - p;
            q = (d - p * p) / q;
        }
    }

    /** a x y + b x + c y + d, where x and y are what is left to read of two rows. */
    private static final class Half {
        long a;
        long b;
        long c;
        long d;

        void become(long newA, long newB, long newC, long newD) {
            a = newA;
            b = newB;
            c = newC;
            d = newD;
        }

        void readFirst(int n) {
            become(grown(a, n, c), grown(b, n, d), a, b);
        }

        void readSecond(int n) {
            become(grown(a, n, b), a, grown(c, n, d), c);
        }

        void endFirst() {
            become(a, b, a, b);
        }

        void endSecond() {
            become(a, a, c, c);
        }

        void subtract(long q, Half other) {
            become(grown(other.a, -q, a), grown(other.b, -q, b), grown(other.c, -q, c), grown(other.d, -q, d));
        }

        boolean isBeyond() {
            return a == BEYOND || b == BEYOND || c == BEYOND || d == BEYOND;
        }
    }

    /**
     * Reckons the TERMS of a DOUBLE. A SINGLE is one without a second row: its a, b stand where
     * a and c of a DOUBLE stand, the others are 0, so that reading and being sure come out the same.
     */
    private static final class Reckoner {
        private Half above = new Half();
        private Half below = new Half();
        private Row first;
        private Row second;
        private int firstRead;
        private int secondRead;
        private int readSinceTerm;
        private boolean firstEnded;
        private boolean secondEnded;
        private boolean tookFirst;
        private long sureTerm;

        void startSingle(Row x, int a, int b, int c, int d) {
            begin(x, null);
            above.become(a, 0, b, 0);
            below.become(c, 0, d, 0);
        }

        void startDouble(int how, Row x, Row y) {
            begin(x, y);
            above.become(how == 2 ? 1 : 0, how == 2 ? 0 : 1, how == 0 ? 1 : how == 1 ? -1 : 0, 0);
            below.become(0, 0, how == 3 ? 1 : 0, how == 3 ? 0 : 1);
        }

        private void begin(Row x, Row y) {
            first = x;
            second = y;
            firstRead = 0;
            secondRead = 0;
            readSinceTerm = 0;
            firstEnded = x == null;
            secondEnded = y == null;
            tookFirst = false;
        }

        /** Lets TERMS out to the row, which is clear, until it has so many or stops ahead. */
        void run(Row out, int most) {
            int stop = GOES_ON;
            for (int step = 0; step < MOST_STEPS && stop == GOES_ON; step++) {
                if (out.known >= most) {
                    stop = CUT;
                } else if (firstEnded && secondEnded && below.a == 0) {
                    stop = ENDS;
                } else if (isSure()) {
                    stop = letOut(out);
                } else if (readSinceTerm >= MOST_READ) {
                    stop = STUCK;
                } else {
                    tookFirst = !firstEnded && (secondEnded || !tookFirst);
                    stop = tookFirst ? readFirst() : readSecond();
                }
            }
            out.stop = stop == GOES_ON ? STUCK : stop;
            out.reads = firstRead + secondRead;
        }

        private boolean isSure() {
            if ((!firstEnded && firstRead == 0) || (!secondEnded && secondRead == 0)) {
                return false;
            }
            long e = below.a;
            long ef = e + below.b;
            long eg = e + below.c;
            long efgh = ef + below.c + below.d;
            boolean positive = e > 0 && ef > 0 && eg > 0 && efgh > 0;
            boolean negative = e < 0 && ef < 0 && eg < 0 && efgh < 0;
            if (!positive && !negative) {
                return false;
            }
            long ab = above.a + above.b;
            sureTerm = Math.floorDiv(above.a, e);
            return sureTerm == Math.floorDiv(ab, ef)
                && sureTerm == Math.floorDiv(above.a + above.c, eg)
                && sureTerm == Math.floorDiv(ab + above.c + above.d, efgh);
        }

        private int letOut(Row out) {
            if (sureTerm > MOST_TERM || sureTerm < -MOST_TERM) {
                return SPENT;
            }
            above.subtract(sureTerm, below);
            if (above.isBeyond()) {
                return SPENT;
            }
            Half rest = above;
            above = below;
            below = rest;
            out.add((int) sureTerm, firstRead, secondRead);
            readSinceTerm = 0;
            return GOES_ON;
        }

        private int readFirst() {
            if (first == null || first.unknownAt(firstRead)) {
                return STUCK;
            }
            if (!first.knows(firstRead)) {
                above.endFirst();
                below.endFirst();
                firstEnded = true;
                return GOES_ON;
            }
            int n = first.termAt(firstRead);
            above.readFirst(n);
            below.readFirst(n);
            firstRead++;
            readSinceTerm++;
            return above.isBeyond() || below.isBeyond() ? SPENT : GOES_ON;
        }

        private int readSecond() {
            if (second == null || second.unknownAt(secondRead)) {
                return STUCK;
            }
            if (!second.knows(secondRead)) {
                above.endSecond();
                below.endSecond();
                secondEnded = true;
                return GOES_ON;
            }
            int n = second.termAt(secondRead);
            above.readSecond(n);
            below.readSecond(n);
            secondRead++;
            readSinceTerm++;
            return above.isBeyond() || below.isBeyond() ? SPENT : GOES_ON;
        }
    }

    /** CONVERGENTS, one TERM after the other. */
    private static final class Ladder {
        long above;
        long below;
        long aboveAhead;
        long belowAhead;
        boolean beyond;

        void start() {
            above = 1;
            below = 0;
            aboveAhead = 0;
            belowAhead = 1;
            beyond = false;
        }

        void climb(Row row, int k) {
            start();
            for (int i = 0; i <= k && i < MOST_TERMS; i++) {
                climbOne(row.termAt(i));
            }
        }

        /** Once a number was beyond, all behind it are. */
        void climbOne(int n) {
            if (beyond) {
                return;
            }
            long nextAbove = grown(above, n, aboveAhead);
            long nextBelow = grown(below, n, belowAhead);
            aboveAhead = above;
            belowAhead = below;
            above = nextAbove;
            below = nextBelow;
            beyond = above == BEYOND || below == BEYOND;
        }
    }

    /** The tape, its first bytes as a row of TOKENS that are taken one by one, and the first FAULT. */
    private static final class Tape {
        // A TOKEN of one byte has that byte as its code.
        static final int FIGURES = 256;
        static final int END = 257;
        static final int MANY = 258;
        static final int FIRST = 259;
        static final int OR = 260;
        static final int AND = 261;
        static final int NOT = 262;
        static final int PLACE = 263;
        static final int TERM = 264;
        static final int AHEAD = 265;
        static final int SUM = 266;
        static final int BEHIND = 267;
        static final int OTHER_WORD = 268;

        private final int[] bytes = new int[MOST_BYTES];
        private final int[] codes = new int[MOST_BYTES + 1];
        private final int[] values = new int[MOST_BYTES + 1];
        private final int[] starts = new int[MOST_BYTES + 1];
        private int tokens;
        private int next;
        int filled;
        int flaw;
        int flawPlace = NONE;

        void addFour(int number) {
            addByte(number >>> 24);
            addByte(number >>> 16);
            addByte(number >>> 8);
            addByte(number);
        }

        private void addByte(int number) {
            if (filled >= 0 && filled < bytes.length) {
                bytes[filled] = number & 255;
                filled++;
            }
        }

        void empty() {
            filled = 0;
        }

        /** Makes TOKENS of the first n bytes, and forgets the latest FAULT. */
        void open(int n) {
            flaw = 0;
            flawPlace = NONE;
            tokens = 0;
            next = 0;
            int at = 0;
            for (int i = 0; i < MOST_BYTES && at < n; i++) {
                at = scanNext(at, n);
            }
            addToken(END, 0, n);
        }

        /** Takes the TOKEN or blank that begins there; the place behind it. */
        private int scanNext(int at, int n) {
            int sign = byteAt(at);
            if (isFigure(sign)) {
                return scanFigures(at, n);
            }
            if (isLetter(sign)) {
                return scanWord(at, n);
            }
            if (sign != ' ' && sign != '\n') {
                addToken(sign, 0, at);
            }
            return at + 1;
        }

        /** However many figures come, the value stays one above the greatest lawful number. */
        private int scanFigures(int from, int n) {
            int value = byteAt(from) - '0';
            int at = from + 1;
            while (at < n && isFigure(byteAt(at))) {
                value = Math.min(value * 10 + byteAt(at) - '0', MOST_FIGURE + 1);
                at++;
            }
            addToken(FIGURES, value, from);
            return at;
        }

        private int scanWord(int from, int n) {
            int at = from + 1;
            while (at < n && isLetter(byteAt(at))) {
                at++;
            }
            addToken(wordCode(from, at), 0, from);
            return at;
        }

        private int wordCode(int from, int to) {
            if (spells("many", from, to)) {
                return MANY;
            } else if (spells("first", from, to)) {
                return FIRST;
            } else if (spells("or", from, to)) {
                return OR;
            } else if (spells("and", from, to)) {
                return AND;
            } else if (spells("not", from, to)) {
                return NOT;
            } else if (spells("place", from, to)) {
                return PLACE;
            } else if (spells("term", from, to)) {
                return TERM;
            } else if (spells("ahead", from, to)) {
                return AHEAD;
            } else if (spells("sum", from, to)) {
                return SUM;
            } else if (spells("behind", from, to)) {
                return BEHIND;
            }
            return OTHER_WORD;
        }

        private boolean spells(String word, int from, int to) {
            if (to - from != word.length()) {
                return false;
            }
            for (int i = 0; i < word.length(); i++) {
                if (byteAt(from + i) != word.charAt(i)) {
                    return false;
                }
            }
            return true;
        }

        private int byteAt(int i) {
            return i >= 0 && i < bytes.length ? bytes[i] : NONE;
        }

        private static boolean isFigure(int sign) {
            return sign >= '0' && sign <= '9';
        }

        private static boolean isLetter(int sign) {
            return sign >= 'a' && sign <= 'z';
        }

        private void addToken(int code, int value, int start) {
            if (tokens >= 0 && tokens <= MOST_BYTES) {
                codes[tokens] = code;
                values[tokens] = value;
                starts[tokens] = start;
                tokens++;
            }
        }

        /** Whether this TOKEN comes next; behind a FAULT none does. */
        boolean isNext(int code) {
            return flaw == 0 && next >= 0 && next < codes.length && codes[next] == code;
        }

        /** Takes this TOKEN if it comes next; the end is never passed. */
        boolean take(int code) {
            boolean there = isNext(code);
            if (there && code != END) {
                next++;
            }
            return there;
        }

        void expect(int code) {
            if (!take(code)) {
                fail(MISPLACED);
            }
        }

        /** The figures that must come next, least to 9999. */
        int takeFigures(int least) {
            int value = next >= 0 && next < values.length ? values[next] : 0;
            if (!isNext(FIGURES)) {
                fail(MISPLACED);
                return 0;
            }
            if (value < least || value > MOST_FIGURE) {
                fail(UNFIT_NUMBER);
                return 0;
            }
            next++;
            return value;
        }

        /** A FAULT at the TOKEN that comes next, if it is the first one. */
        void fail(int code) {
            if (flaw == 0) {
                flaw = code;
                flawPlace = next >= 0 && next < starts.length ? starts[next] : 0;
            }
        }
    }

    /** A text that tells a row. */
    private static final class RowText {
        private final Tape text;
        private final int[] terms = new int[MOST_TERMS];
        private int returnsTo;
        int numbers;

        RowText(Tape tape) {
            text = tape;
        }

        void parse() {
            numbers = 0;
            returnsTo = NONE;
            text.expect('[');
            boolean minus = text.take('-');
            int whole = text.takeFigures(0);
            keep(minus ? -whole : whole);
            for (int i = 0; i < MOST_BYTES && returnsTo == NONE && takeMark(); i++) {
                if (text.take('(')) {
                    returnsTo = numbers;
                    parseBrackets();
                } else {
                    keep(text.takeFigures(1));
                }
            }
            text.expect(']');
            text.expect(Tape.END);
        }

        private void parseBrackets() {
            keep(text.takeFigures(1));
            for (int i = 0; i < MOST_BYTES && takeMark(); i++) {
                keep(text.takeFigures(1));
            }
            text.expect(')');
        }

        private boolean takeMark() {
            return text.take(';') || text.take(',');
        }

        /** TERMS that no row can have known are counted alone. */
        private void keep(int value) {
            if (numbers >= 0 && numbers < terms.length) {
                terms[numbers] = value;
            }
            numbers++;
        }

        /** Hands the TERMS over, those in brackets as often as there is room. */
        void tellTo(Made made) {
            int known = returnsTo == NONE ? Math.min(numbers, MOST_TERMS) : MOST_TERMS;
            for (int k = 0; k < known && k < terms.length && k < made.toldTerms.length; k++) {
                if (k >= numbers) {
                    terms[k] = earlierTerm(k - (numbers - returnsTo));
                }
                made.toldTerms[k] = terms[k];
            }
            made.toldKnown = known;
        }

        private int earlierTerm(int k) {
            return k >= 0 && k < terms.length ? terms[k] : 0;
        }
    }

    /** A QUESTION; while it is read it is answered for all TERMS at once, a bit for each. */
    private static final class Question {
        private final Tape text;
        private Row asked;
        private long allTerms;

        Question(Tape tape) {
            text = tape;
        }

        int answer(Row row) {
            asked = row;
            allTerms = (1L << Math.min(row.known, MOST_TERMS)) - 1;
            boolean many = text.take(Tape.MANY);
            if (!many) {
                text.expect(Tape.FIRST);
            }
            long holds = parseTest(0);
            text.expect(Tape.END);
            if (text.flaw != 0) {
                return HIDDEN - text.flaw;
            }
            return many ? Long.bitCount(holds) : firstPlace(holds);
        }

        private static int firstPlace(long holds) {
            for (int k = 0; k < MOST_TERMS; k++) {
                if ((holds >> k & 1) == 1) {
                    return k;
                }
            }
            return NONE;
        }

        /** FACTS joined by 'and' and, less closely, by 'or'; open: how many 'not', '{' are. */
        private long parseTest(int open) {
            long holds = 0;
            long both = allTerms;
            for (int i = 0; i < MOST_BYTES; i++) {
                both &= parseFact(open);
                if (text.take(Tape.AND)) {
                    continue;
                }
                holds |= both;
                both = allTerms;
                if (!text.take(Tape.OR)) {
                    break;
                }
            }
            return holds;
        }

        private long parseFact(int open) {
            boolean not = text.isNext(Tape.NOT);
            if (!not && !text.isNext('{')) {
                return parseComparison();
            }
            if (open >= MOST_OPEN) {
                text.fail(TOO_DEEP);
                return 0;
            }
            if (text.take(Tape.NOT)) {
                return allTerms & ~parseFact(open + 1);
            }
            text.expect('{');
            long holds = parseTest(open + 1);
            text.expect('}');
            return holds;
        }

        private long parseComparison() {
            int oneCode = parseValueCode();
            int oneFigures = oneCode == Tape.FIGURES ? text.takeFigures(0) : 0;
            int sign = parseCompareSign();
            int twoCode = parseValueCode();
            int twoFigures = twoCode == Tape.FIGURES ? text.takeFigures(0) : 0;
            long holds = 0;
            long sum = 0;
            for (int k = 0; k < asked.known && k < MOST_TERMS && text.flaw == 0; k++) {
                sum += asked.termAt(k);
                long one = oneCode == Tape.FIGURES ? oneFigures : valueAt(oneCode, k, sum);
                long two = twoCode == Tape.FIGURES ? twoFigures : valueAt(twoCode, k, sum);
                if (sign == (one < two ? -1 : one > two ? 1 : 0)) {
                    holds |= 1L << k;
                }
            }
            return holds;
        }

        /** Takes the word of a value; FIGURES, and nothing is taken, if none comes next. */
        private int parseValueCode() {
            for (int code = Tape.PLACE; code <= Tape.BEHIND; code++) {
                if (text.take(code)) {
                    return code;
                }
            }
            return Tape.FIGURES;
        }

        /** What comparing the values must give: -1, 0, 1. */
        private int parseCompareSign() {
            if (text.take('<')) {
                return -1;
            }
            if (text.take('>')) {
                return 1;
            }
            if (!text.take('=')) {
                text.fail(MISPLACED);
            }
            return 0;
        }

        private long valueAt(int code, int k, long sum) {
            switch (code) {
                case Tape.PLACE:
                    return k;
                case Tape.TERM:
                    return asked.termAt(k);
                case Tape.AHEAD:
                    return k == 0 ? 0 : asked.termAt(k - 1);
                case Tape.SUM:
                    return sum;
                default:
                    return asked.known - 1 - k;
            }
        }
    }

    /** The text of the row that was said latest. */
    private static final class Saying {
        private final int[] bytes = new int[MOST_SAID];
        int length;

        void start() {
            length = 0;
        }

        int byteAt(int i) {
            return i >= 0 && i < length && i < bytes.length ? bytes[i] : NONE;
        }

        void putFirst(Row row, int n) {
            int shown = Math.min(n, row.known);
            putSign('[');
            putTerms(row, 0, shown);
            if (row.known > shown || row.stop != ENDS) {
                putSign('~');
            }
            putSign(']');
        }

        /** The TERMS ahead of start, 1 at least, and as many as come again in brackets. */
        void putReturning(Row row, int start, int period) {
            putSign('[');
            putTerms(row, 0, start);
            putMarkAhead(start);
            putSign('(');
            putNumber(row.termAt(start));
            putTerms(row, start + 1, start + period);
            putSign(')');
            putSign(']');
        }

        private void putTerms(Row row, int from, int to) {
            for (int k = from; k < to; k++) {
                putMarkAhead(k);
                putNumber(row.termAt(k));
            }
        }

        private void putMarkAhead(int k) {
            if (k > 0) {
                putSign(k == 1 ? ';' : ',');
            }
        }

        private void putNumber(int number) {
            if (number < 0) {
                putSign('-');
            }
            int size = Math.abs(number);
            boolean begun = false;
            for (int unit = 1000000000; unit > 0; unit /= 10) {
                int figure = size / unit % 10;
                begun = begun || figure != 0 || unit == 1;
                if (begun) {
                    putSign((char) ('0' + figure));
                }
            }
        }

        private void putSign(char sign) {
            if (length >= 0 && length < bytes.length) {
                bytes[length] = sign;
                length++;
            }
        }
    }
}
