import java.util.NoSuchElementException;

/** What the tests share: answers counted, exceptions as answers, texts fed and said. */
final class Check {
    static final long NO_SUCH = Long.MIN_VALUE + 1;
    static final long ILLEGAL = Long.MIN_VALUE + 2;

    interface Call {
        long run();
    }

    private static int wrong;
    private static String about = "";

    private Check() {
    }

    /** What the next answers are about: it stands ahead of all that is printed of them. */
    static void about(String what) {
        about = what.isEmpty() ? "" : what + ": ";
    }

    /** A call's answer; NO_SUCH or ILLEGAL, if it throws that. Nothing else is caught. */
    static long answer(Call call) {
        try {
            return call.run();
        } catch (NoSuchElementException e) {
            return e.getClass() == NoSuchElementException.class ? NO_SUCH : told(e);
        } catch (IllegalArgumentException e) {
            return e.getClass() == IllegalArgumentException.class ? ILLEGAL : told(e);
        }
    }

    private static long told(RuntimeException e) {
        throw e;
    }

    static String named(long answer) {
        return answer == NO_SUCH ? "NoSuchElementException" : answer == ILLEGAL ? "IllegalArgumentException" : "" + answer;
    }

    static void due(String what, long want, Call call) {
        due(what, want, answer(call));
    }

    static void due(String what, long want, long got) {
        if (got != want) {
            wrong++;
            System.out.println(about + what + ": answered " + named(got) + ", due is " + named(want));
        }
    }

    static void due(String what, boolean want, boolean got) {
        due(what, want ? 1L : 0L, got ? 1L : 0L);
    }

    static void due(String what, String want, String got) {
        if (!got.equals(want)) {
            wrong++;
            System.out.println(about + what + ": answered " + got + ", due is " + want);
        }
    }

    static int wrong() {
        return wrong;
    }

    static void end() {
        System.out.println(wrong == 0 ? "all answers are as due" : wrong + " answers are not as due");
        if (wrong != 0) {
            System.exit(1);
        }
    }

    /** Feeds a text, filled up with blanks to a multiple of 20 bytes. */
    static void feed(TermRows rows, String text) {
        for (int i = 0; i < text.length(); i += 20) {
            rows.feed(four(text, i), four(text, i + 4), four(text, i + 8), four(text, i + 12), four(text, i + 16));
        }
    }

    static int four(String text, int from) {
        int number = 0;
        for (int i = from; i < from + 4; i++) {
            number = number << 8 | (i < text.length() ? text.charAt(i) & 255 : ' ');
        }
        return number;
    }

    static long tell(TermRows rows, int row, String text) {
        feed(rows, text);
        return answer(() -> rows.told(row, text.length()));
    }

    static long ask(TermRows rows, int row, String text) {
        feed(rows, text);
        return answer(() -> rows.ask(row, text.length()));
    }

    static String said(TermRows rows) {
        StringBuilder text = new StringBuilder();
        for (int i = 0; rows.said(i) != TermRows.NONE; i++) {
            text.append((char) rows.said(i));
        }
        return text.toString();
    }

    static String say(TermRows rows, int row, int n) {
        int length = rows.say(row, n);
        String text = said(rows);
        due("bytes said of " + text, length, text.length());
        return text;
    }
}
