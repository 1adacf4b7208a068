import java.util.function.Supplier;

/**
 * Promises 2 to 31: what each call refuses, one beyond each bound on either side, and far beyond; that it changes
 * nothing; of several refusals which is answered; that what is just within the bounds is not refused.
 */
public final class RefusalTest {
    private static final int MIN = Integer.MIN_VALUE, MAX = Integer.MAX_VALUE;
    private static final int MISSING = 3, LONG = 2;

    public static void main(String[] args) {
        promise2SetRefusesWhat();
        promise2SetRefusesV();
        promise2SetRefusesOf();
        promise2SetWithin();
        promise3WrightRefuses();
        promise3WrightWithin();
        promise4ToldNoneSuch();
        promise4ToldWithin();
        promise5Asks();
        promise6Feed();
        promise7TextIsFullAheadOfAll();
        promise7TextAtAFault();
        promise8Force();
        promise9Builds();
        promise10BoundIsNeverRefused();
        promise11Home();
        promise12Day();
        promise13Run();
        promise14DownIsNeverRefused();
        promise15Yard();
        promise16Stands();
        promise17Go();
        promise18WorstIsNeverRefused();
        promise19Mean();
        promise20Tells();
        promise20TellsInItsOrder();
        promise21Film();
        promise22Drawn();
        promise23Chance();
        promise24ImageIsNeverRefused();
        promise25Back();
        promise26Count();
        promise27Sheet();
        promise27SheetInItsOrder();
        promise28Cell();
        promise29Copy();
        promise29CopyInItsOrder();
        promise30Gang();
        promise30GangInItsOrder();
        promise31Taken();
        Due.ends();
    }

    // ---- what they are asked of

    /**
     * DAY 7, SEA 25, WATER 35, TEXT 1 THE RULE; four WRIGHTS, of whom 0 is LOST, 1 ABOARD, 2 and 3 ASHORE; an image
     * that is otherwise; a TEXT on THE TAPE; SHEET 0 of 9 bytes, 1 of 6 shorts, LONG of 21 ints, MISSING.
     */
    static WhoBuiltSails sailing() {
        WhoBuiltSails x = new WhoBuiltSails();
        Due.text(x, "makes skill+part;mends 2;pumps 1+number;");
        x.force(1);
        Due.feed(x, "makes 41;mends 42;pumps 43;");
        x.wright(1, 4, 30);
        x.wright(2, 3, 20);
        x.wright(4, 2, 10);
        x.wright(5, 6, 50);
        x.builds(0, 0);
        x.bound();
        x.set(2, 0, 99);
        x.day();
        x.set(2, 0, 40);
        x.builds(1, 1);
        x.bound();
        x.builds(2, 2);
        x.builds(3, 3);
        x.image();
        x.set(0, 0, 7);
        x.set(1, 0, 25);
        x.set(2, 0, 35);
        x.set(3, 9, 50);
        x.set(4, 2, 8);
        x.set(5, 2, 60);
        x.builds(3, 4);
        cells(x, 0, 0, 9, 0, 1, 2, 3, 4, 5, 1, 2, 3);
        cells(x, 1, 1, 6, 5, 4, 3, 2, 1, 0);
        cells(x, LONG, 2, 21, 1, 2, 3);
        return x;
    }

    private static void cells(WhoBuiltSails x, int sheet, int sort, int n, int... items) {
        x.sheet(sheet, sort, n);
        for (int i = 0; i < items.length; i++) {
            x.cell(sheet, i, items[i]);
        }
    }

    private static WhoBuiltSails ofFiveWrights() {
        WhoBuiltSails x = sailing();
        x.wright(0, 9, 99);
        return x;
    }

    private static WhoBuiltSails ofSixTexts() {
        WhoBuiltSails x = new WhoBuiltSails();
        x.wright(0, 1, 2);
        for (int i = 0; i < 5; i++) {
            Due.text(x, "makes 1;mends 1;pumps " + i + ";");
        }
        Due.feed(x, "makes 1;mends");
        return x;
    }

    private static WhoBuiltSails ofAFullTape() {
        WhoBuiltSails x = new WhoBuiltSails();
        Due.feed(x, "makes 21;mends 22;pumps" + " ".repeat(134) + "23;");
        return x;
    }

    private static WhoBuiltSails down() {
        WhoBuiltSails x = sailing();
        x.set(2, 0, 100);
        return x;
    }

    private static WhoBuiltSails onTheLastDay() {
        WhoBuiltSails x = sailing();
        x.set(0, 0, 999);
        return x;
    }

    /** It is refused of sailing(), and changes nothing of it. */
    private static void no(long due, String call, int... a) {
        Twins.refuse(RefusalTest::sailing, due, call, a);
    }

    private static void no(Supplier<WhoBuiltSails> made, long due, String call, int... a) {
        Twins.refuse(made, due, call, a);
    }

    /** It is answered of sailing(). */
    private static void yes(long due, String call, int... a) {
        Due.is(call + java.util.Arrays.toString(a), Calls.ask(sailing(), call, a), due);
    }

    // ---- the ship, the sea, wrights

    private static void promise2SetRefusesWhat() {
        for (int what : new int[] {MIN, -1, 6, 7, 10, MAX}) {
            no(Due.BAD, "set", what, 0, 0);
        }
    }

    private static void promise2SetRefusesV() {
        int[] most = {999, 99, 100, 99, 9, 99};
        for (int what = 0; what < 6; what++) {
            for (int v : new int[] {MIN, -1, most[what] + 1, MAX}) {
                no(Due.BAD, "set", what, 1, v);
            }
        }
    }

    private static void promise2SetRefusesOf() {
        for (int of : new int[] {MIN, -1, 10, MAX}) {
            no(Due.BAD, "set", 3, of, 0);
        }
        for (int of : new int[] {MIN, -1, 4, 5, MAX}) {
            no(Due.BAD, "set", 4, of, 0);
            no(Due.BAD, "set", 5, of, 0);
        }
        no(RefusalTest::ofFiveWrights, Due.BAD, "set", 4, 5, 0);
        no(RefusalTest::ofFiveWrights, Due.BAD, "set", 5, 5, 0);
        no(WhoBuiltSails::new, Due.BAD, "set", 4, 0, 0);
        no(WhoBuiltSails::new, Due.BAD, "set", 5, 0, 0);
    }

    private static void sets(int was, int what, int of, int v) {
        WhoBuiltSails x = sailing();
        String told = "2 set(" + what + ", " + of + ", " + v + ")";
        Due.is(told, x.set(what, of, v), was);
        Due.is(told + " told", x.told(of, what), v);
    }

    private static void promise2SetWithin() {
        for (int of : new int[] {MIN, -1, 0, 10, MAX}) {
            sets(7, 0, of, 0);
            sets(7, 0, of, 999);
            sets(25, 1, of, 0);
            sets(25, 1, of, 99);
            sets(35, 2, of, 0);
            sets(35, 2, of, 100);
        }
        for (int v : new int[] {0, 99}) {
            sets(34, 3, 0, v);
            sets(50, 3, 9, v);
            sets(30, 5, 0, v);
            sets(50, 5, 3, v);
        }
        for (int v : new int[] {0, 9}) {
            sets(4, 4, 0, v);
            sets(6, 4, 3, v);
        }
    }

    private static void promise3WrightRefuses() {
        for (Supplier<WhoBuiltSails> made : java.util.List.<Supplier<WhoBuiltSails>>of(RefusalTest::sailing,
                RefusalTest::ofFiveWrights)) {
            for (int wild : new int[] {MIN, MAX}) {
                no(made, Due.BAD, "wright", wild, 0, 0);
                no(made, Due.BAD, "wright", 0, wild, 0);
                no(made, Due.BAD, "wright", 0, 0, wild);
            }
            no(made, Due.BAD, "wright", -1, 0, 0);
            no(made, Due.BAD, "wright", 6, 0, 0);
            no(made, Due.BAD, "wright", 0, -1, 0);
            no(made, Due.BAD, "wright", 0, 10, 0);
            no(made, Due.BAD, "wright", 0, 0, -1);
            no(made, Due.BAD, "wright", 0, 0, 100);
        }
        no(RefusalTest::ofFiveWrights, Due.FULL, "wright", 0, 0, 0);
        no(RefusalTest::ofFiveWrights, Due.FULL, "wright", 5, 9, 99);
    }

    private static void promise3WrightWithin() {
        yes(4, "wright", 0, 0, 0);
        yes(4, "wright", 5, 9, 99);
        Due.is("3 the first", new WhoBuiltSails().wright(5, 0, 99), 0);
    }

    private static void promise4ToldNoneSuch() {
        for (int what : new int[] {MIN, -1, 12, 13, MAX}) {
            no(Due.NONE_SUCH, "told", 0, what);
        }
        for (int of : new int[] {MIN, -1, 10, MAX}) {
            no(Due.NONE_SUCH, "told", of, 3);
            no(Due.NONE_SUCH, "told", of, 10);
            no(Due.NONE_SUCH, "told", of, 11);
        }
        for (int what = 4; what < 10; what++) {
            for (int of : new int[] {MIN, -1, 4, MAX}) {
                no(Due.NONE_SUCH, "told", of, what);
            }
            Due.is("4 none such of five", ofFiveWrights().told(5, what), Due.NONE_SUCH);
            Due.is("4 none such of none", new WhoBuiltSails().told(0, what), Due.NONE_SUCH);
        }
    }

    private static void promise4ToldWithin() {
        for (int of : new int[] {MIN, -1, 0, 10, MAX}) {
            yes(7, "told", of, 0);
            yes(25, "told", of, 1);
            yes(35, "told", of, 2);
        }
        yes(34, "told", 0, 3);
        yes(50, "told", 9, 3);
        yes(0, "told", 0, 10);
        yes(-1, "told", 9, 10);
        yes(0, "told", 0, 11);
        yes(25, "told", 8, 11);
        yes(0, "told", 9, 11);
        int[] first = {4, 30, 1, 2, 1, 2};
        int[] last = {6, 50, 5, 0, 1 << 3 | 1 << 4, 6};
        for (int what = 4; what < 10; what++) {
            yes(first[what - 4], "told", 0, what);
            yes(last[what - 4], "told", 3, what);
        }
        Due.is("4 the fifth", ofFiveWrights().told(4, 4), 9);
    }

    private static void promise5Asks() {
        for (int one : new int[] {MIN, -1, 4, MAX}) {
            no(Due.BAD, "asks", one, 0, 0);
        }
        for (int part : new int[] {MIN, -1, 10, MAX}) {
            no(Due.BAD, "asks", 0, part, 1);
        }
        for (int what : new int[] {MIN, -1, 2, MAX}) {
            no(Due.BAD, "asks", 0, 0, what);
        }
        Due.is("5 none such of five", ofFiveWrights().asks(5, 0, 0), Due.BAD);
        yes(34, "asks", 0, 0, 0);
        yes(4, "asks", 0, 0, 1);
        yes(39, "asks", 0, 9, 0);
        yes(2, "asks", 0, 9, 1);
        yes(99, "asks", 3, 9, 0);
        yes(0, "asks", 3, 9, 1);
    }

    // ---- texts

    private static void promise6Feed() {
        for (int letter : new int[] {MIN, -1, 256, MAX}) {
            no(Due.BAD, "feed", letter);
            no(RefusalTest::ofAFullTape, Due.BAD, "feed", letter);
        }
        for (int letter : new int[] {0, 32, 255}) {
            no(RefusalTest::ofAFullTape, Due.FULL, "feed", letter);
            yes(28, "feed", letter);
        }
        WhoBuiltSails x = ofAFullTape();
        Due.is("6 what a full TAPE holds", x.text(), 1);
        Due.is("6 has room again", x.feed(0), 1);
    }

    private static void promise7TextIsFullAheadOfAll() {
        no(RefusalTest::ofSixTexts, Due.FULL, "text");
        WhoBuiltSails x = ofSixTexts();
        for (int i = 0; i < 3; i++) {
            Due.is("7 FULL", x.text(), Due.FULL);
            Due.is("7 THE TAPE stays", x.count(4), 13);
            Due.is("7 six TEXTS", x.count(3), 6);
        }
        Due.is("7 and goes on", x.feed(32), 14);
    }

    /** A FAULT empties THE TAPE and changes nothing else. */
    private static void promise7TextAtAFault() {
        WhoBuiltSails x = sailing();
        WhoBuiltSails y = sailing();
        y.text();
        y.force(2);
        x.feed('x');
        Due.is("7 a FAULT", x.text(), -127);
        Due.is("7 THE TAPE is empty", x.count(4), 0);
        Due.is("7 no TEXT more", x.count(3), 2);
        Due.is("7 THE RULE stays", x.count(5), 1);
        Due.is("7 nor is it there", x.force(2), Due.BAD);
        Due.is("7 THE RULE tells as ahead", x.asks(1, 1, 0), (20 + 1) / 2);
        Due.is("7 an empty TAPE has a FAULT, too", x.text(), -100);
        Due.is("7 the next one has its number", Due.text(x, "makes 41;mends 42;pumps 43;"), 2);
        Due.is("7 it is forced", x.force(2), 1);
        Due.is("7 as if there had been no FAULT", Twins.everything(x).equals(Twins.everything(y)));
    }

    private static void promise8Force() {
        for (int text : new int[] {MIN, -1, 2, 5, 6, MAX}) {
            no(Due.BAD, "force", text);
        }
        yes(1, "force", 0);
        yes(1, "force", 1);
        no(RefusalTest::ofSixTexts, Due.BAD, "force", 6);
        Due.is("8 the sixth", ofSixTexts().force(5), 0);
        no(WhoBuiltSails::new, Due.BAD, "force", 1);
    }

    // ---- the yard, days

    private static void promise9Builds() {
        for (int one : new int[] {MIN, -1, 4, MAX}) {
            no(Due.BAD, "builds", one, 0);
        }
        for (int part : new int[] {MIN, -1, 10, MAX}) {
            no(Due.BAD, "builds", 2, part);
            // Who is LOST, who is ABOARD: BAD ahead of STATE.
            no(Due.BAD, "builds", 0, part);
            no(Due.BAD, "builds", 1, part);
        }
        no(Due.STATE, "builds", 0, 9);
        no(Due.STATE, "builds", 1, 1);
        yes(99, "builds", 3, 9);
        yes(0, "builds", 3, 0);
        no(RefusalTest::ofFiveWrights, Due.BAD, "builds", 5, 0);
        Due.is("9 the fifth", ofFiveWrights().builds(4, 0), 99);
    }

    private static void promise10BoundIsNeverRefused() {
        Due.is("10 of none", new WhoBuiltSails().bound(), 0);
        Due.is("10 of who made any", ofFiveWrights().bound(), 1 << 1 | 1 << 2 | 1 << 3);
        Due.is("10 she is DOWN", down().bound(), 1 << 1 | 1 << 2 | 1 << 3);
        Due.is("10 DAY is 999", onTheLastDay().bound(), 1 << 1 | 1 << 2 | 1 << 3);
    }

    private static void promise11Home() {
        no(RefusalTest::down, Due.STATE, "home");
        yes(2, "home");
        Due.is("11 DAY is 999", onTheLastDay().home(), 2);
        WhoBuiltSails x = sailing();
        x.set(2, 0, 99);
        Due.is("11 99 WATER", x.home(), 2);
    }

    private static void promise12Day() {
        no(RefusalTest::down, Due.STATE, "day");
        no(RefusalTest::onTheLastDay, Due.STATE, "day");
        WhoBuiltSails x = onTheLastDay();
        x.set(0, 0, 998);
        x.set(2, 0, 99);
        Due.is("12 99 WATER, DAY 998", x.day(), 100);
        Due.is("12 DAY 999", x.told(0, 0), 999);
        Due.is("12 DOWN and DAY 999", x.day(), Due.STATE);
        x.set(2, 0, 0);
        Due.is("12 DAY 999", x.day(), Due.STATE);
        x.set(0, 0, 0);
        Due.is("12 DAY 0, nobody PUMPS", x.day() > 0);
    }

    private static void promise13Run() {
        for (int n : new int[] {MIN, -1, 41, MAX}) {
            no(Due.BAD, "run", n, 0);
            no(Due.BAD, "run", n, 19);
        }
        for (int what : new int[] {MIN, MIN + 9, -1, 3, 4, 9, 20, 21, MAX}) {
            no(Due.BAD, "run", 0, what);
            no(Due.BAD, "run", 40, what);
        }
        yes(35, "run", 0, 0);
        yes(1, "run", 0, 1);
        // 7 of the odd ones (1), none (3), 12 (5, 7), none (9); 9 (2), 25 (4, 6, 8).
        yes(7 + 12 + 12 + 9 + 25 * 3, "run", 0, 2);
        yes(34, "run", 0, 10);
        yes(50, "run", 0, 19);
        yes(50, "run", 40, 19);
    }

    private static void promise14DownIsNeverRefused() {
        Due.is("14 at first", new WhoBuiltSails().down(), 7);
        Due.is("14 she is DOWN", down().down(), 0);
        Due.is("14 DAY is 999", onTheLastDay().down(), sailing().down());
    }

    // ---- what would be best

    private static void promise15Yard() {
        for (int n : new int[] {MIN, -1, 21, MAX}) {
            no(Due.BAD, "yard", n, 0);
            no(Due.BAD, "yard", n, 1);
        }
        for (int what : new int[] {MIN, -1, 2, MAX}) {
            no(Due.BAD, "yard", 0, what);
            no(Due.BAD, "yard", 20, what);
        }
        // 5, 6 and 7 are MADE BY nobody; 2 and 3 are ASHORE, and all ways are alike yet.
        yes((3 * 6 + 3) * 6 + 3, "yard", 0, 0);
        yes(35, "yard", 0, 1);
        Due.is("15 20 DAYS", sailing().yard(20, 1) >= 0);
    }

    private static void promise16Stands() {
        for (int n : new int[] {MIN, -1, 0, 41, MAX}) {
            no(Due.BAD, "stands", n);
        }
        Due.is("16 one DAY", sailing().stands(1) >= 0);
        Due.is("16 40 DAYS", sailing().stands(40) >= 0);
        Due.is("16 BAD ahead of NONE", down().stands(0), Due.BAD);
        Due.is("16 NONE", down().stands(1), Due.NONE);
        Due.is("16 NONE", down().stands(40), Due.NONE);
    }

    private static void promise17Go() {
        for (int n : new int[] {MIN, -1, 41, MAX}) {
            no(Due.BAD, "go", n, 0);
            no(Due.BAD, "go", n, 1);
        }
        for (int what : new int[] {MIN, -1, 2, MAX}) {
            no(Due.BAD, "go", 0, what);
            no(RefusalTest::down, Due.BAD, "go", 40, what);
        }
        yes(0, "go", 0, 0);
        yes(0, "go", 0, 1);
        Due.is("17 NONE", down().go(40, 0), Due.NONE);
        Due.is("17 NONE", down().go(40, 1), Due.NONE);
    }

    private static void promise18WorstIsNeverRefused() {
        yes(4, "worst");
        WhoBuiltSails x = down();
        Due.is("18 she is DOWN", x.worst(), 4);
        x.set(1, 0, 0);
        Due.is("18 NONE", x.worst(), Due.NONE);
    }

    private static void promise19Mean() {
        for (int part : new int[] {MIN, -1, 2, MAX}) {
            no(WhoBuiltSails.NO, "mean", part);
        }
        yes(209, "mean", 0);
        yes(10, "mean", 1);
    }

    // ---- water that was told

    private static void promise20Tells() {
        for (int sheet : new int[] {MIN, -1, 4, MAX}) {
            no(Due.BAD, "tells", sheet, 0, 0);
        }
        for (int one : new int[] {MIN, -1, 4, MAX}) {
            no(Due.BAD, "tells", 0, one, 0);
        }
        for (int what : new int[] {MIN, -1, 9, MAX}) {
            no(Due.BAD, "tells", 0, 0, what);
        }
        for (int what = 0; what <= 8; what++) {
            no(Due.NOTHING, "tells", MISSING, 0, what);
            no(Due.BAD, "tells", LONG, 3, what);
        }
        yes(0, "tells", 0, 0, 0);
        yes(0, "tells", 1, 3, 8);
        WhoBuiltSails x = sailing();
        x.sheet(LONG, 2, 20);
        Due.is("20 twenty", x.tells(LONG, 3, 0), 0);
        Due.is("20 of none", new WhoBuiltSails().tells(0, 0, 0), Due.BAD);
        Due.is("20 of five", ofFiveWrights().tells(0, 5, 0), Due.BAD);
        Due.is("20 the fifth", ofFiveWrights().tells(0, 4, 0), 0);
    }

    private static void promise20TellsInItsOrder() {
        no(Due.BAD, "tells", MISSING, 4, 0);
        no(Due.BAD, "tells", MISSING, -1, 8);
        no(Due.BAD, "tells", MISSING, 0, 9);
        no(Due.BAD, "tells", MISSING, 0, -1);
        no(Due.BAD, "tells", LONG, 4, 9);
        no(Due.NOTHING, "tells", MISSING, 0, 0);
    }

    private static void promise21Film() {
        for (int sheet : new int[] {MIN, -1, 4, MAX}) {
            no(Due.BAD, "film", sheet, 0);
        }
        for (int sheet = 0; sheet < 4; sheet++) {
            for (int n : new int[] {MIN, -1, 21, MAX}) {
                no(Due.BAD, "film", sheet, n);
            }
            yes(0, "film", sheet, 0);
            yes(20, "film", sheet, 20);
        }
    }

    private static void promise22Drawn() {
        for (int n : new int[] {MIN, -1, 41, MAX}) {
            no(Due.BAD, "drawn", 0, n);
            no(Due.BAD, "drawn", MAX, n);
        }
        for (int seed : new int[] {MIN, -1, 0, 1, MAX}) {
            yes(35, "drawn", seed, 0);
            Due.is("22 40 DAYS", sailing().drawn(seed, 40) >= 0);
        }
    }

    private static void promise23Chance() {
        for (int m : new int[] {MIN, -1, 0, 21, MAX}) {
            no(WhoBuiltSails.NO, "chance", 0, m, 0);
            no(WhoBuiltSails.NO, "chance", 0, m, 1);
        }
        for (int part : new int[] {MIN, -1, 2, MAX}) {
            no(WhoBuiltSails.NO, "chance", 0, 1, part);
            no(WhoBuiltSails.NO, "chance", 0, 20, part);
        }
        for (int seed : new int[] {MIN, -1, 0, 1, MAX}) {
            Due.is("23 all of one", down().chance(seed, 1, 0), 1);
            Due.is("23 of one", down().chance(seed, 1, 1), 1);
            Due.is("23 all of 20", down().chance(seed, 20, 0), 1);
            Due.is("23 of 20", down().chance(seed, 20, 1), 1);
        }
    }

    private static void promise24ImageIsNeverRefused() {
        Due.is("24 nobody", new WhoBuiltSails().image(), 0);
        yes(4, "image");
        Due.is("24 five", ofFiveWrights().image(), 5);
        Due.is("24 she is DOWN", down().image(), 4);
        Due.is("24 DAY is 999", onTheLastDay().image(), 4);
    }

    private static void promise25Back() {
        no(WhoBuiltSails::new, Due.STATE, "back");
        no(RefusalTest::ofSixTexts, Due.STATE, "back");
        Due.is("25 she is DOWN", down().back(), 4);
        Due.is("25 DAY is 999", onTheLastDay().back(), 4);
        Due.is("25 one came since", ofFiveWrights().back(), 4);
    }

    private static void promise26Count() {
        for (int what : new int[] {MIN, -1, 6, MAX}) {
            no(Due.BAD, "count", what);
        }
        yes(4, "count", 0);
        yes(5, "count", 1);
        yes(1, "count", 2);
        yes(2, "count", 3);
        yes(27, "count", 4);
        yes(1, "count", 5);
    }

    // ---- the host

    private static void promise27Sheet() {
        for (int sheet : new int[] {MIN, -1, 4, MAX}) {
            no(Due.BAD, "sheet", sheet, 0, 1);
        }
        for (int sheet = 0; sheet < 4; sheet++) {
            for (int sort : new int[] {MIN, -2, 3, MAX}) {
                no(Due.BAD, "sheet", sheet, sort, 1);
            }
            for (int sort = 0; sort < 3; sort++) {
                no(Due.BAD, "sheet", sheet, sort, 41);
                no(Due.BAD, "sheet", sheet, sort, MAX);
                no(Due.BELOW_ZERO, "sheet", sheet, sort, -1);
                no(Due.BELOW_ZERO, "sheet", sheet, sort, MIN);
                yes(1, "sheet", sheet, sort, 0);
                yes(1, "sheet", sheet, sort, 40);
            }
            for (int n : new int[] {MIN, -1, 0, 40, 41, MAX}) {
                yes(1, "sheet", sheet, -1, n);
            }
        }
    }

    private static void promise27SheetInItsOrder() {
        for (int n : new int[] {-1, 41}) {
            no(Due.BAD, "sheet", 4, 0, n);
            no(Due.BAD, "sheet", -1, -1, n);
            no(Due.BAD, "sheet", 0, 3, n);
            no(Due.BAD, "sheet", 0, -2, n);
        }
    }

    private static void promise28Cell() {
        for (int sheet : new int[] {MIN, -1, 4, MAX}) {
            no(Due.BAD, "cell", sheet, 0, 1);
            no(Due.BAD, "cell", sheet, -1, 1);
        }
        for (int i : new int[] {MIN, -1, 0, 9, MAX}) {
            no(Due.NOTHING, "cell", MISSING, i, 1);
        }
        for (int i : new int[] {MIN, -1, 9, 40, MAX}) {
            no(Due.OUTSIDE, "cell", 0, i, 5);
        }
        no(Due.OUTSIDE, "cell", 1, 6, 5);
        no(Due.OUTSIDE, "cell", LONG, 21, 5);
        for (int v : new int[] {MIN, -1, 0, 128, 256, MAX}) {
            yes(1, "cell", 0, 0, v);
            yes(1, "cell", 0, 8, v);
            yes(1, "cell", 1, 5, v);
            yes(1, "cell", LONG, 20, v);
        }
    }

    private static void promise29Copy() {
        for (int sheet : new int[] {MIN, -1, 4, MAX}) {
            no(Due.BAD, "copy", sheet, 0, 0, 0, 1);
            no(Due.BAD, "copy", 0, 0, sheet, 0, 1);
        }
        no(Due.NOTHING, "copy", MISSING, 0, 0, 0, 1);
        no(Due.NOTHING, "copy", 0, 0, MISSING, 0, 1);
        no(Due.NOTHING, "copy", MISSING, 0, MISSING, 0, 0);
        for (int sheet = 0; sheet < 3; sheet++) {
            no(Due.OTHER_SORT, "copy", sheet, 0, (sheet + 1) % 3, 0, 1);
            no(Due.OTHER_SORT, "copy", (sheet + 1) % 3, 0, sheet, 0, 0);
        }
        int[][] outside = {{-1, 0, 1}, {0, -1, 1}, {0, 0, -1}, {0, 0, 10}, {1, 0, 9}, {0, 1, 9}, {9, 0, 1}, {0, 9, 1},
            {10, 0, 0}, {0, 10, 0}, {-1, 0, 0}, {0, -1, 0}, {MIN, 0, 1}, {0, MIN, 1}, {0, 0, MIN}, {MAX, 0, 1},
            {0, MAX, 1}, {0, 0, MAX}, {1, 1, MAX}, {MAX, MAX, 2}, {MIN, MIN, MIN}, {MAX, MAX, MAX}};
        for (int[] a : outside) {
            no(Due.OUTSIDE, "copy", 0, a[0], 0, a[1], a[2]);
        }
        yes(9, "copy", 0, 0, 0, 0, 9);
        yes(8, "copy", 0, 1, 0, 0, 8);
        yes(8, "copy", 0, 0, 0, 1, 8);
        yes(1, "copy", 0, 8, 0, 0, 1);
        yes(1, "copy", 0, 0, 0, 8, 1);
        yes(0, "copy", 0, 9, 0, 0, 0);
        yes(0, "copy", 0, 0, 0, 9, 0);
    }

    private static void promise29CopyInItsOrder() {
        no(Due.BAD, "copy", MISSING, 0, 4, 0, -1);
        no(Due.BAD, "copy", -1, 0, MISSING, 0, -1);
        no(Due.BAD, "copy", 4, -1, 0, -1, -1);
        no(Due.NOTHING, "copy", MISSING, -1, 1, 99, -1);
        no(Due.NOTHING, "copy", 1, 99, MISSING, -1, -1);
        no(Due.OTHER_SORT, "copy", 0, -1, 1, 0, 1);
        no(Due.OTHER_SORT, "copy", 0, 0, 1, 99, 1);
        no(Due.OTHER_SORT, "copy", 0, 0, 1, 0, -1);
    }

    private static void promise30Gang() {
        for (int sheet : new int[] {MIN, -1, 4, MAX}) {
            no(Due.BAD, "gang", sheet, 0, 0, 1);
        }
        for (int sort : new int[] {MIN, -1, 3, MAX}) {
            no(Due.BAD, "gang", 0, sort, 0, 1);
        }
        for (int n : new int[] {MIN, -1, 6, MAX}) {
            no(Due.BAD, "gang", 0, 0, 0, n);
        }
        for (int sheet = 0; sheet < 3; sheet++) {
            no(Due.OTHER_SORT, "gang", sheet, (sheet + 1) % 3, 0, 1);
            no(Due.OTHER_SORT, "gang", sheet, (sheet + 2) % 3, 0, 0);
            no(Due.NOTHING, "gang", MISSING, sheet, 0, 1);
            no(Due.NOTHING, "gang", MISSING, sheet, 0, 0);
        }
        for (int from : new int[] {MIN, -3, -1, 7, 8, 9, 40, MAX - 2, MAX}) {
            no(Due.OUTSIDE, "gang", 0, 0, from, 1);
            no(Due.OUTSIDE, "gang", 0, 0, from, 5);
        }
        no(RefusalTest::ofFiveWrights, Due.OUTSIDE, "gang", 0, 0, 7, 1);
        yes(1, "gang", 0, 0, 0, 1);
        yes(1, "gang", 0, 0, 6, 1);
        yes(0, "gang", 0, 0, 0, 0);
        yes(0, "gang", 0, 0, 9, 0);
        yes(1, "gang", 1, 1, 3, 1);
        yes(1, "gang", LONG, 2, 18, 1);
    }

    private static void promise30GangInItsOrder() {
        no(Due.BAD, "gang", MISSING, 3, 0, 0);
        no(Due.BAD, "gang", MISSING, 0, 0, 6);
        no(Due.BAD, "gang", 0, 1, 0, 6);
        no(Due.BAD, "gang", 0, 1, 0, -1);
        no(Due.BAD, "gang", 0, 3, -1, 1);
        no(Due.BAD, "gang", 0, 0, -1, 6);
        no(Due.OTHER_SORT, "gang", 0, 1, -1, 1);
        no(Due.OTHER_SORT, "gang", 0, 2, 9, 5);
        no(Due.NOTHING, "gang", MISSING, 0, -1, 1);
        no(Due.NOTHING, "gang", MISSING, 2, 99, 5);
    }

    private static void promise31Taken() {
        for (int k : new int[] {MIN, -1, 6, MAX}) {
            no(Due.BAD, "taken", 0, k);
            no(Due.BAD, "taken", 4, k);
            no(Due.BAD, "taken", -1, k);
        }
        for (int one : new int[] {MIN, -1, 4, MAX}) {
            no(Due.NOTHING, "taken", one, 0);
            no(Due.NOTHING, "taken", one, 5);
        }
        no(Due.OTHER_SORT, "taken", 0, 5);
        no(Due.OTHER_SORT, "taken", 3, 4);
        yes(4, "taken", 0, 0);
        yes(6, "taken", 3, 0);
        yes(6, "taken", 3, 5);
        Due.is("31 none such of five", ofFiveWrights().taken(5, 0), Due.NOTHING);
        Due.is("31 the fifth", ofFiveWrights().taken(4, 0), 9);
        Due.is("31 the fifth", ofFiveWrights().taken(4, 1), Due.OTHER_SORT);
        Due.is("31 none at first", new WhoBuiltSails().taken(0, 0), Due.NOTHING);
    }
}
