/** What the tests share: answers that are due, counted, and calls that come in rows. */
final class Due {
    static final int NONE = -1, BAD = -2, STATE = -3, FULL = -4;
    static final int NOTHING = -11, OUTSIDE = -12, OTHER_SORT = -13, BELOW_ZERO = -14;
    static final int NONE_SUCH = -1000;

    private static int wrong;
    private static int asked;

    private Due() {
    }

    static void is(String call, long got, long due) {
        asked++;
        if (got != due) {
            wrong++;
            System.out.println(call + " answered " + got + ", due is " + due);
        }
    }

    static void is(String call, boolean got) {
        is(call, got ? 1 : 0, 1);
    }

    /** A run of bytes comes behind THE TAPE. */
    static void feed(WhoBuiltSails x, String bytes) {
        for (int i = 0; i < bytes.length(); i++) {
            x.feed(bytes.charAt(i));
        }
    }

    /** What text() answers of these bytes. */
    static int text(WhoBuiltSails x, String bytes) {
        feed(x, bytes);
        return x.text();
    }

    /** A new object under a RULE of these bytes. */
    static WhoBuiltSails under(String bytes) {
        WhoBuiltSails x = new WhoBuiltSails();
        is("text of " + bytes, text(x, bytes), 1);
        is("force(1)", x.force(1), 0);
        return x;
    }

    /** A SHEET becomes these numbers. */
    static void row(WhoBuiltSails x, int sheet, int sort, int... items) {
        is("sheet(" + sheet + ", " + sort + ", " + items.length + ")", x.sheet(sheet, sort, items.length), 1);
        for (int i = 0; i < items.length; i++) {
            is("cell(" + sheet + ", " + i + ", " + items[i] + ")", x.cell(sheet, i, items[i]), 1);
        }
    }

    static void ends() {
        System.out.println(asked + " asked, " + wrong + " not as due");
        if (wrong != 0 || asked == 0) {
            System.exit(1);
        }
    }
}
