/** The boundary cases that section 2 and promises 9 to 31 name, and what is answered there. */
public final class EdgesTest {
    private static final int MIN = Integer.MIN_VALUE, MAX = Integer.MAX_VALUE;

    public static void main(String[] args) {
        builtIsToldAhead();
        boundOnlyWhoIsAshoreAndMadeAny();
        leaksNoLessThanNone();
        aDayWhileSheIsDown();
        aDayByWhichSheIsDown();
        aDayPumpsByNumbers();
        aDayMendsTheLeastSound();
        run0And1And40Days();
        downBehind0And1And59And60And61();
        yardOf0To4Parts();
        yardOfNobodyAshore();
        yardOfOneToFiveAshore();
        yardOf0And20Days();
        yardOfLikeOnes();
        yardDownTo0();
        standsFrom0To99();
        standsOf1And40Days();
        goOf0To5();
        goOf0And40Days();
        goOfLikeOnes();
        goLeavesOutWhoIsLost();
        worstFrom0To9();
        meanFrom0To99();
        tellsOf0And1And20Days();
        tellsOneKindAlone();
        tellsOneNumberAlone();
        tellsOneSkillAlone();
        tellsOneSeaAlone();
        tellsOneTextAlone();
        tellsOnePartAlone();
        tellsNoneAtAll();
        tellsOfADownShip();
        filmOf0And20();
        drawnBySeedsThatWrap();
        chanceBySeedsThatWrap();
        chanceInLowestTerms();
        imageOfNobodyAndOfFive();
        imageKeepsAllThatIsSaid();
        countsAtTheirBounds();
        sheetOf0And40();
        cellKeepsTheLowestBits();
        copyOntoItself();
        gangOf0To5();
        gangTillOutside();
        gangLeavesOthersOut();
        takenOfEachKind();
        Due.ends();
    }

    private static WhoBuiltSails withOne(int kind, int number, int skill) {
        WhoBuiltSails x = new WhoBuiltSails();
        x.wright(kind, number, skill);
        return x;
    }

    /** Only these PARTS leak, all of them 0 SOUND. */
    private static void onlyLeak(WhoBuiltSails x, int... parts) {
        for (int part = 0; part < 10; part++) {
            x.set(3, part, 99);
        }
        for (int part : parts) {
            x.set(3, part, 0);
        }
    }

    // ---- BUILT, BOUND, LEAKS, a DAY

    private static void builtIsToldAhead() {
        WhoBuiltSails x = Due.under("makes sound+1;mends 0;pumps 0;");
        x.wright(3, 0, 0);
        x.set(3, 1, 40);
        Due.is("by the SOUND ahead", x.builds(0, 1), 41);
        Due.is("by the SOUND ahead", x.builds(0, 1), 42);
        Due.is("it is no other one of itself", x.asks(0, 1, 0), 43);
        x.set(3, 1, 98);
        Due.is("99", x.builds(0, 1), 99);
        Due.is("99 at most", x.builds(0, 1), 99);
    }

    private static void boundOnlyWhoIsAshoreAndMadeAny() {
        WhoBuiltSails x = withOne(0, 0, 0);
        x.wright(0, 0, 0);
        Due.is("none made any", x.bound(), 0);
        x.builds(0, 0);
        x.builds(1, 0);
        Due.is("who made it last", x.bound(), 2);
        Due.is("who made none any more is ASHORE", x.told(0, 7), 0);
        x.builds(0, 0);
        Due.is("who is ABOARD stays", x.bound(), 3);
        x.set(2, 0, 99);
        x.day();
        Due.is("who is LOST stays so", x.bound(), 0);
        Due.is("LOST", x.told(0, 7), 2);
    }

    private static void leaksNoLessThanNone() {
        WhoBuiltSails x = new WhoBuiltSails();
        int[] sounds = {0, 16, 17, 18, 19, 20, 21, 99};
        int[] under = {20, 4, 3, 2, 1, 0, 0, 0};
        int[] above = {10, 2, 1, 1, 0, 0, 0, 0};
        for (int i = 0; i < sounds.length; i++) {
            x.set(3, 4, sounds[i]);
            x.set(3, 5, sounds[i]);
            Due.is("UNDER, " + sounds[i] + " SOUND", x.told(4, 11), under[i]);
            Due.is("not UNDER, " + sounds[i] + " SOUND", x.told(5, 11), above[i]);
            Due.is("all of it", x.run(0, 2), 4 * 20 + 4 * 10 + under[i] + above[i]);
        }
    }

    private static void aDayWhileSheIsDown() {
        WhoBuiltSails x = Due.under("makes 0;mends 5;pumps 9+day;");
        x.wright(0, 0, 0);
        x.builds(0, 0);
        x.bound();
        x.set(2, 0, 100);
        for (int n = 0; n <= 40; n += 20) {
            Due.is("WATER", x.run(n, 0), 100);
            Due.is("nobody is LOST by it", x.run(n, 1), 0);
            Due.is("nothing is mended", x.run(n, 10), 0);
            Due.is("nothing leaks otherwise", x.run(n, 2), 150);
        }
    }

    private static void aDayByWhichSheIsDown() {
        for (int water = 84; water <= 86; water++) {
            WhoBuiltSails x = Due.under("makes 0;mends 5;pumps 9;");
            x.wright(0, 0, 0);
            x.wright(0, 0, 0);
            x.builds(0, 0);
            x.bound();
            x.set(2, 0, water);
            boolean isDown = water > 84;
            Due.is("WATER of " + water, x.run(1, 0), isDown ? 100 : 90);
            Due.is("LOST of " + water, x.run(1, 1), isDown ? 1 : 0);
            Due.is("SOUND of " + water, x.run(1, 10), isDown ? 0 : 5);
            Due.is("truly", x.day(), isDown ? 100 : 90);
            Due.is("where", x.told(0, 7), isDown ? 2 : 1);
            Due.is("ASHORE stays", x.told(1, 7), 0);
            Due.is("SOUND", x.told(0, 3), isDown ? 0 : 5);
            Due.is("DAY", x.told(0, 0), 1);
        }
    }

    /** CAREFUL ones PUMP from 30 on alone, so that who comes first matters. */
    private static void aDayPumpsByNumbers() {
        WhoBuiltSails x = Due.under("makes 0;mends 0;pumps 1;");
        for (int i = 0; i < 5; i++) {
            x.wright(4, 0, 0);
            x.builds(i, 2 * i);
        }
        x.bound();
        x.set(1, 0, 0);
        // Each PUMPS 1 and 4 others.
        int[] waters = {29, 30, 34, 35, 39, 40, 54, 55};
        int[] dues = {29, 25, 29, 25, 29, 25, 29, 30};
        for (int i = 0; i < waters.length; i++) {
            x.set(2, 0, waters[i]);
            Due.is("of " + waters[i], x.run(1, 0), dues[i]);
        }
    }

    private static void aDayMendsTheLeastSound() {
        WhoBuiltSails x = Due.under("makes 0;mends 1;pumps 0;");
        x.wright(0, 0, 0);
        x.wright(0, 0, 0);
        x.builds(0, 1);
        x.builds(0, 8);
        x.builds(0, 9);
        x.builds(1, 0);
        x.bound();
        x.set(1, 0, 0);
        for (int n = 0; n <= 6; n++) {
            Due.is("the first of like ones", x.run(n, 11), (n + 2) / 3);
            Due.is("then the next one", x.run(n, 18), (n + 1) / 3);
            Due.is("then the last one", x.run(n, 19), n / 3);
            Due.is("the other one's alone", x.run(n, 10), n);
            Due.is("nobody's", x.run(n, 12), 0);
        }
        // The least SOUND is mended even where nothing can be mended any more.
        x.set(3, 1, 99);
        x.set(3, 8, 99);
        x.set(3, 9, 99);
        Due.is("99 stays", x.run(3, 11), 99);
    }

    // ---- n DAYS, DOWN

    private static void run0And1And40Days() {
        WhoBuiltSails x = withOne(0, 0, 0);
        x.builds(0, 0);
        x.bound();
        onlyLeak(x, 0);
        x.set(1, 0, 10);
        Due.is("0 DAYS", x.run(0, 0), 0);
        Due.is("0 DAYS", x.run(0, 10), 0);
        Due.is("1 DAY", x.run(1, 10), 1);
        Due.is("40 DAYS", x.run(40, 10), 40);
        Due.is("40 DAYS' leak", x.run(40, 2), 0);
        Due.is("9 DAYS' leak", x.run(9, 2), 1);
        onlyLeak(x, 0, 1);
        x.home();
        x.set(1, 0, 19);
        // 19 and 9 leak, so 2 come in a DAY, and nobody PUMPS or mends.
        Due.is("39 DAYS", x.run(39, 0), 78);
        Due.is("40 DAYS", x.run(40, 0), 80);
        Due.is("not 41", x.run(41, 0), Due.BAD);
    }

    private static void downBehind0And1And59And60And61() {
        WhoBuiltSails x = new WhoBuiltSails();
        onlyLeak(x, 0);
        x.set(1, 0, 19);
        int[] waters = {100, 99, 98, 42, 41, 40, 39, 0};
        int[] dues = {0, 1, 2, 58, 59, 60, Due.NONE, Due.NONE};
        for (int i = 0; i < waters.length; i++) {
            x.set(2, 0, waters[i]);
            Due.is("DOWN of " + waters[i], x.down(), dues[i]);
        }
        x.set(1, 0, 9);
        x.set(2, 0, 99);
        Due.is("none comes in", x.down(), Due.NONE);
    }

    // ---- YARD

    private static int way(int... who) {
        int way = 0;
        for (int one : who) {
            way = way * 6 + one + 1;
        }
        return way;
    }

    private static void yardOf0To4Parts() {
        int[] dues = {0, way(0), way(0, 0), way(0, 0, 0), way(0, 0, 0)};
        // What 30 SOUND is leaks 69, or half of it, 34; a fourth PART stays as it is.
        int[] leaks = {5 * 69 + 5 * 34, 5 * 69 + 5 * 34, 5 * 69 + 5 * 34, 5 * 69 + 5 * 34, 4 * 69 + 99 + 5 * 34};
        for (int parts = 0; parts <= 4; parts++) {
            WhoBuiltSails x = withOne(0, 0, 30);
            x.set(1, 0, 99);
            // The last one that is nobody's is UNDER.
            for (int part = 0; part < 10 - parts; part++) {
                x.builds(0, (part + 9) % 10);
            }
            Due.is(parts + " PARTS", x.yard(1, 0), dues[parts]);
            Due.is(parts + " PARTS' WATER", x.yard(1, 1), leaks[parts] / 10 - 3);
        }
    }

    private static void yardOfNobodyAshore() {
        WhoBuiltSails x = new WhoBuiltSails();
        Due.is("no WRIGHTS", x.yard(3, 0), 0);
        Due.is("no WRIGHTS' WATER", x.yard(3, 1), 45);
        x.wright(0, 0, 30);
        x.builds(0, 0);
        x.bound();
        Due.is("all are ABOARD", x.yard(3, 0), 0);
        Due.is("all ABOARD's WATER", x.yard(3, 1), x.run(3, 0));
        x.set(2, 0, 99);
        x.day();
        x.set(2, 0, 0);
        Due.is("all are LOST", x.yard(3, 0), 0);
        // 130 leak, as the PART that was made doesn't.
        Due.is("all LOST's WATER", x.yard(3, 1), 39);
        x.wright(0, 0, 30);
        Due.is("one is ASHORE", x.yard(3, 0), way(1, 1, 1));
    }

    private static void yardOfOneToFiveAshore() {
        for (int last = 0; last < 5; last++) {
            WhoBuiltSails x = new WhoBuiltSails();
            for (int one = 0; one < last; one++) {
                x.wright(0, 0, 10 + one);
            }
            // The last one's SKILL is worth more than that others PUMP.
            x.wright(1, 0, 99);
            x.force(Due.text(x, "makes skill;mends 0;pumps 0;"));
            x.set(1, 0, 99);
            Due.is("the last of " + (last + 1), x.yard(1, 0), way(last, last, last));
            Due.is("WATER", x.yard(1, 1), (3 * 99 + 4 * 49) / 10);
        }
        Due.is("the greatest", way(4, 4, 4), 215);
        Due.is("the least", way(0, 0, 0), 43);
    }

    private static void yardOf0And20Days() {
        WhoBuiltSails x = Due.under("makes skill;mends 0;pumps 0;");
        x.wright(0, 0, 0);
        x.wright(0, 0, 19);
        onlyLeak(x);
        x.set(1, 0, 29);
        // Built by 1, these three leak 10, 5 and 10, so that 2 come in a DAY; any by 0 leaks more.
        for (int n : new int[] {0, 1, 19, 20}) {
            Due.is(n + " DAYS", x.yard(n, 0), n == 0 ? way(0, 0, 0) : way(1, 1, 1));
            Due.is(n + " DAYS' WATER", x.yard(n, 1), 2 * n);
        }
        Due.is("not 21", x.yard(21, 1), Due.BAD);
        x.set(2, 0, 59);
        Due.is("just not DOWN", x.yard(20, 1), 99);
        x.set(2, 0, 60);
        Due.is("DOWN whoever builds", x.yard(20, 0), way(0, 0, 0));
        Due.is("DOWN whoever builds", x.yard(20, 1), 100);
    }

    private static void yardOfLikeOnes() {
        WhoBuiltSails x = Due.under("makes 50;mends 0;pumps 1;");
        x.wright(0, 0, 0);
        x.wright(0, 0, 0);
        x.wright(0, 0, 0);
        // All that PUMP are worth 1 each: all three go, and of these ways the first.
        x.set(2, 0, 50);
        Due.is("three go", x.yard(2, 0), way(0, 1, 2));
        x.builds(0, 9);
        Due.is("one of them goes anyway", x.yard(2, 0), way(0, 1, 2));
        x.builds(1, 7);
        x.builds(2, 8);
        Due.is("all go anyway", x.yard(2, 0), way(0, 0, 0));
        x.bound();
        x.wright(0, 0, 0);
        Due.is("one is ASHORE", x.yard(2, 0), way(3, 3, 3));
    }

    // ---- STANDS, GO

    /** WATER of 2, 1 and 0 by who builds: the least is 0, and none is better than the first that has it. */
    private static void yardDownTo0() {
        WhoBuiltSails x = Due.under("makes 99;mends 0;pumps number;");
        x.wright(0, 0, 0);
        x.wright(0, 1, 0);
        x.wright(0, 2, 0);
        x.wright(0, 2, 0);
        onlyLeak(x);
        for (int part = 0; part < 9; part++) {
            x.builds(0, part);
        }
        x.set(2, 0, 2);
        Due.is("PUMPED dry by 2", x.yard(1, 0), way(2));
        Due.is("dry", x.yard(1, 1), 0);
        x.set(2, 0, 3);
        Due.is("1 is left by 2", x.yard(1, 0), way(2));
        Due.is("1 is left", x.yard(1, 1), 1);
        x.set(2, 0, 1);
        Due.is("1 is enough", x.yard(1, 0), way(1));
        x.set(2, 0, 0);
        Due.is("dry anyway", x.yard(1, 0), way(0));
    }

    private static void standsFrom0To99() {
        WhoBuiltSails x = new WhoBuiltSails();
        onlyLeak(x);
        Due.is("99, no PART leaks", x.stands(40), 99);
        onlyLeak(x, 0);
        // By SEA s a tenth of s comes in a DAY.
        int[] waters = {90, 91, 92, 97, 98, 99};
        int[] dues = {99, 89, 79, 29, 19, 9};
        for (int i = 0; i < waters.length; i++) {
            x.set(2, 0, waters[i]);
            Due.is("of " + waters[i], x.stands(1), dues[i]);
        }
        WhoBuiltSails y = new WhoBuiltSails();
        y.set(2, 0, 99);
        Due.is("SEA 1, of all ten", y.stands(1), 1);
        y.set(2, 0, 100);
        Due.is("NONE", y.stands(1), Due.NONE);
    }

    private static void standsOf1And40Days() {
        WhoBuiltSails x = new WhoBuiltSails();
        onlyLeak(x, 0);
        int[] days = {1, 2, 10, 11, 12, 39, 40};
        int[] dues = {99, 99, 99, 99, 89, 29, 29};
        for (int i = 0; i < days.length; i++) {
            Due.is(days[i] + " DAYS", x.stands(days[i]), dues[i]);
        }
        x.set(2, 0, 21);
        Due.is("39 of 2", x.stands(39), 29);
        Due.is("40 of 2", x.stands(40), 19);
    }

    private static void goOf0To5() {
        for (int few = 0; few <= 5; few++) {
            WhoBuiltSails x = new WhoBuiltSails();
            for (int i = 0; i < 5; i++) {
                x.wright(5, 1, 0);
            }
            // 15 come in a DAY; ahead of the second DAY's 1 is PUMPED by each.
            x.set(2, 0, 69 + few);
            Due.is(few + " go", x.go(2, 0), (1 << few) - 1);
            Due.is(few + " go", x.go(2, 1), few);
            x.set(2, 0, 75);
            Due.is("not by five", x.go(2, 0), Due.NONE);
            Due.is("not by five", x.go(2, 1), Due.NONE);
        }
    }

    private static void goOf0And40Days() {
        WhoBuiltSails x = withOne(5, 1, 0);
        x.set(2, 0, 99);
        Due.is("0 DAYS", x.go(0, 0), 0);
        Due.is("0 DAYS", x.go(0, 1), 0);
        x.set(2, 0, 100);
        Due.is("0 DAYS, DOWN", x.go(0, 0), Due.NONE);
        Due.is("0 DAYS, DOWN", x.go(0, 1), Due.NONE);
        onlyLeak(x, 0);
        x.set(1, 0, 19);
        x.set(2, 0, 60);
        Due.is("39 of 1", x.go(39, 0), 0);
        Due.is("40 of 1", x.go(40, 0), 1);
        x.set(2, 0, 59);
        Due.is("40 of 1", x.go(40, 0), 0);
    }

    private static void goOfLikeOnes() {
        WhoBuiltSails x = new WhoBuiltSails();
        int[] numbers = {0, 2, 1, 3, 3};
        for (int number : numbers) {
            x.wright(5, number, 0);
        }
        int[] pumped = {0, 1, 2, 3, 4, 5, 6, 7, 8, 9};
        int[] dues = {0, 1 << 1, 1 << 1, 1 << 3, 1 << 1 | 1 << 3, 1 << 1 | 1 << 3, 1 << 3 | 1 << 4,
            1 << 1 | 1 << 3 | 1 << 4, 1 << 1 | 1 << 3 | 1 << 4, 1 << 1 | 1 << 2 | 1 << 3 | 1 << 4};
        for (int i = 0; i < pumped.length; i++) {
            x.set(2, 0, 69 + pumped[i]);
            Due.is("the least as bits that PUMP " + pumped[i], x.go(2, 0), dues[i]);
            Due.is("how many", x.go(2, 1), Integer.bitCount(dues[i]));
        }
        x.set(2, 0, 69 + 10);
        Due.is("they PUMP 9", x.go(2, 0), Due.NONE);
    }

    private static void goLeavesOutWhoIsLost() {
        WhoBuiltSails x = withOne(5, 9, 0);
        x.wright(5, 1, 0);
        x.builds(0, 0);
        x.bound();
        x.set(2, 0, 99);
        x.day();
        x.set(2, 0, 69 + 1);
        Due.is("who isn't LOST", x.go(2, 0), 2);
        x.set(2, 0, 69 + 2);
        Due.is("who is LOST PUMPS none", x.go(2, 0), Due.NONE);
        x.builds(1, 1);
        x.bound();
        x.set(1, 0, 0);
        Due.is("all may stay", x.go(40, 0), 0);
        x.set(2, 0, 99);
        x.set(1, 0, 99);
        x.day();
        x.set(2, 0, 0);
        x.set(1, 0, 0);
        Due.is("all are LOST: none goes", x.go(40, 0), 0);
        Due.is("all are LOST: none goes", x.go(40, 1), 0);
    }

    // ---- WORST, MEAN

    private static void worstFrom0To9() {
        for (int part = 0; part < 10; part++) {
            WhoBuiltSails x = new WhoBuiltSails();
            onlyLeak(x, part);
            Due.is("it alone", x.worst(), part);
            x.set(1, 0, 2);
            Due.is("a leak of 1 or 2", x.worst(), part);
            x.set(1, 0, 1);
            Due.is("a leak of 0 or 1", x.worst(), part % 2 == 0 ? part : Due.NONE);
            x.set(1, 0, 0);
            Due.is("none", x.worst(), Due.NONE);
        }
        WhoBuiltSails y = new WhoBuiltSails();
        onlyLeak(y, 1, 9);
        Due.is("of like ones the first", y.worst(), 1);
        y.set(3, 8, 10);
        Due.is("UNDER 10 as half of 20", y.worst(), 1);
        y.set(3, 8, 9);
        Due.is("UNDER 11", y.worst(), 8);
        y.set(3, 0, 10);
        y.set(3, 8, 10);
        Due.is("of like ones the first", y.worst(), 0);
    }

    private static void meanFrom0To99() {
        for (int sum = 0; sum <= 990; sum += sum < 30 || sum > 960 ? 1 : 7) {
            WhoBuiltSails x = new WhoBuiltSails();
            int left = sum;
            for (int part = 0; part < 10; part++) {
                x.set(3, part, Math.min(99, left));
                left -= Math.min(99, left);
            }
            int by = sum % 10 == 0 ? 10 : sum % 5 == 0 ? 5 : sum % 2 == 0 ? 2 : 1;
            Due.is("above of " + sum, x.mean(0), sum / by);
            Due.is("below of " + sum, x.mean(1), 10 / by);
        }
    }

    // ---- TOLD

    private static void tellsOf0And1And20Days() {
        WhoBuiltSails x = withOne(5, 1, 0);
        x.builds(0, 0);
        x.bound();
        onlyLeak(x, 0);
        // 2 come in and 1 is PUMPED.
        int[] row = new int[20];
        for (int i = 0; i < 20; i++) {
            row[i] = i + 1;
        }
        for (int sort = 0; sort < 3; sort++) {
            for (int n = 0; n <= 20; n++) {
                Due.row(x, 1, sort, java.util.Arrays.copyOf(row, n));
                Due.is("as it is, " + n, x.tells(1, 0, 0), Due.NONE);
                if (n > 0) {
                    x.cell(1, n - 1, n + 1);
                    Due.is("the last is otherwise, " + n, x.tells(1, 0, 0), n - 1);
                }
            }
            x = withOne(5, 1, 0);
            x.builds(0, 0);
            x.bound();
            onlyLeak(x, 0);
        }
        Due.row(x, 1, 0, row);
        x.cell(1, 0, 0);
        x.cell(1, 19, 0);
        Due.is("the first", x.tells(1, 0, 0), 0);
        x.cell(1, 0, 1);
        Due.is("the twentieth", x.tells(1, 0, 0), 19);
    }

    /** PUMPS 8, half of it, 1 more (another one is ABOARD), none (WATER is less than 30) or NUMBER. */
    /** Of whatever KIND one is. */
    private static void tellsOneKindAlone() {
        for (int kind = 0; kind < 6; kind++) {
            tellsOneKindOf(kind);
        }
    }

    private static void tellsOneKindOf(int kind) {
        WhoBuiltSails x = Due.under("makes 0;mends 0;pumps 8;");
        x.wright(kind, 3, 0);
        x.wright(5, 0, 0);
        x.builds(0, 0);
        x.builds(1, 1);
        x.bound();
        x.set(1, 0, 0);
        x.set(2, 0, 29);
        int[] pumped = {8, 4, 9, 0, 3};
        int[] kinds = {1, 1 << 1 | 1 << 3, 1 << 2, 1 << 4, 1 << 5};
        for (int i = 0; i < pumped.length; i++) {
            Due.row(x, 0, 0, 29 - pumped[i]);
            Due.is("KINDS that PUMP " + pumped[i] + ", being " + kind, x.tells(0, 0, 1), kinds[i]);
        }
        Due.row(x, 0, 0, 28);
        Due.is("none PUMPS 1", x.tells(0, 0, 1), 0);
        x.sheet(0, 0, 0);
        Due.is("all six", x.tells(0, 0, 1), 63);
        Due.is("KIND stays", x.told(0, 6), kind);
    }

    private static void tellsOneNumberAlone() {
        WhoBuiltSails x = withOne(5, 0, 0);
        x.builds(0, 0);
        x.bound();
        x.set(1, 0, 0);
        x.set(2, 0, 50);
        for (int number = 0; number <= 10; number++) {
            Due.row(x, 0, 0, 50 - number);
            Due.is("NUMBER " + number, x.tells(0, 0, 2), number < 10 ? 1 << number : 0);
        }
        x.sheet(0, 0, 0);
        Due.is("all ten", x.tells(0, 0, 2), 1023);
    }

    private static void tellsOneSkillAlone() {
        WhoBuiltSails x = Due.under("makes 0;mends 0;pumps skill;");
        x.wright(0, 0, 0);
        x.builds(0, 0);
        x.bound();
        x.set(1, 0, 0);
        x.set(2, 0, 99);
        for (int skill : new int[] {0, 1, 50, 98, 99}) {
            Due.row(x, 0, 0, 99 - skill);
            Due.is("how many: " + skill, x.tells(0, 0, 3), 1);
            Due.is("the least: " + skill, x.tells(0, 0, 4), skill);
        }
        x.set(2, 0, 98);
        Due.row(x, 0, 0, 0);
        Due.is("98 and 99", x.tells(0, 0, 3), 2);
        Due.is("the least of them", x.tells(0, 0, 4), 98);
        x.set(2, 0, 0);
        Due.is("all", x.tells(0, 0, 3), 100);
        Due.is("the least of all", x.tells(0, 0, 4), 0);
    }

    private static void tellsOneSeaAlone() {
        WhoBuiltSails x = withOne(0, 0, 0);
        // By SEA 99 5 * 99 and 5 * 49 leak; by 98 it is 735, by 97 725, by 96 720; by 2 15, by 1 5.
        int[] rows = {74, 73, 72, 1, 0, 75};
        int[] many = {1, 1, 2, 1, 2, 0};
        int[] least = {99, 98, 96, 2, 0, Due.NONE};
        for (int i = 0; i < rows.length; i++) {
            Due.row(x, 0, 0, rows[i]);
            Due.is("SEAS of " + rows[i], x.tells(0, 0, 5), many[i]);
            Due.is("the least of " + rows[i], x.tells(0, 0, 6), least[i]);
        }
        onlyLeak(x);
        Due.row(x, 0, 0, 0, 0);
        Due.is("all", x.tells(0, 0, 5), 100);
        Due.is("the least of all", x.tells(0, 0, 6), 0);
        Due.is("SEA stays", x.told(0, 1), 20);
    }

    private static void tellsOneTextAlone() {
        WhoBuiltSails x = withOne(0, 0, 0);
        x.builds(0, 0);
        x.bound();
        x.set(1, 0, 0);
        x.set(2, 0, 50);
        for (int text = 0; text <= 5; text++) {
            x.sheet(0, 0, 0);
            Due.is("all that there are", x.tells(0, 0, 7), (1 << text + 1) - 1);
            Due.row(x, 0, 0, 50 - 3 - text);
            Due.is("TEXT " + text, x.tells(0, 0, 7), 1 << text);
            Due.text(x, "makes 0;mends 0;pumps " + (4 + text) + ";");
        }
        Due.row(x, 0, 0, 50 - 9);
        Due.is("none", x.tells(0, 0, 7), 0);
        Due.is("THE RULE stays", x.count(5), 0);
    }

    private static void tellsOnePartAlone() {
        WhoBuiltSails x = withOne(0, 0, 0);
        Due.row(x, 0, 0, 0, 0);
        for (int part = 0; part < 10; part++) {
            onlyLeak(x, part);
            Due.is("PART " + part, x.tells(0, 0, 8), 1 << part);
            Due.is("SOUND stays", x.told(part, 3), 0);
        }
        onlyLeak(x);
        Due.is("all", x.tells(0, 0, 8), 1023);
        onlyLeak(x, 0, 9);
        Due.is("two leak: the one that does most", x.tells(0, 0, 8), 0);
    }

    private static void tellsNoneAtAll() {
        WhoBuiltSails x = withOne(0, 0, 0);
        for (int never : new int[] {101, -1, 127, 128, 255}) {
            Due.row(x, 0, 0, never);
            Due.is("the first", x.tells(0, 0, 0), 0);
            int[] dues = {0, 0, 0, Due.NONE, 0, Due.NONE, 0, 0};
            for (int what = 1; what <= 8; what++) {
                Due.is("never " + never + ", what " + what, x.tells(0, 0, what), dues[what - 1]);
            }
        }
        Due.row(x, 0, 1, 256);
        Due.is("256 is no 0", x.tells(0, 0, 5), 0);
        Due.row(x, 0, 2, 65536, MIN, MAX);
        Due.is("65536 is no 0", x.tells(0, 0, 5), 0);
    }

    private static void tellsOfADownShip() {
        WhoBuiltSails x = withOne(0, 0, 0);
        x.set(2, 0, 100);
        Due.row(x, 0, 2, 100, 100, 100);
        int[] dues = {Due.NONE, 63, 1023, 100, 0, 100, 0, 1, 1023};
        for (int what = 0; what <= 8; what++) {
            Due.is("DOWN, what " + what, x.tells(0, 0, what), dues[what]);
        }
        Due.row(x, 0, 2, 100, 100, 99);
        int[] others = {2, 0, 0, 0, Due.NONE, 0, Due.NONE, 0, 0};
        for (int what = 0; what <= 8; what++) {
            Due.is("DOWN, otherwise, what " + what, x.tells(0, 0, what), others[what]);
        }
    }

    private static void filmOf0And20() {
        WhoBuiltSails x = withOne(0, 0, 0);
        onlyLeak(x, 0);
        for (int n : new int[] {20, 1, 0, 19}) {
            x.sheet(0, 2, 40);
            Due.is("film of " + n, x.film(0, n), n);
            Due.is("so long", x.copy(0, 0, 0, 0, n), n);
            Due.is("no longer", x.copy(0, 0, 0, 0, n + 1), Due.OUTSIDE);
            Due.is("of bytes", x.gang(0, 0, 0, 0), 0);
            Due.is("not of ints", x.gang(0, 2, 0, 0), Due.OTHER_SORT);
            Due.is("it tells", x.tells(0, 0, 0), Due.NONE);
            Due.row(x, 1, 0, new int[n]);
            for (int i = 0; i < n; i++) {
                x.cell(1, i, 2 * (i + 1));
            }
            Due.is("2 a DAY", x.tells(1, 0, 0), Due.NONE);
        }
    }

    // ---- DRAWN

    private static int water(long seed, int n) {
        long z = seed;
        int water = 0;
        for (int i = 0; i < n && water < 100; i++) {
            z = (z * 1103515245L + 12345L) & 0xffffffffL;
            int sea = (int) ((z >> 9) % 100);
            water = Math.min(100, water + (5 * sea + 5 * (sea / 2)) / 10);
        }
        return water;
    }

    private static void drawnBySeedsThatWrap() {
        WhoBuiltSails x = new WhoBuiltSails();
        for (int seed : new int[] {MIN, MIN + 1, -2, -1, 0, 1, 2, MAX - 1, MAX}) {
            for (int n = 0; n <= 4; n++) {
                Due.is("drawn(" + seed + ", " + n + ")", x.drawn(seed, n), water(seed, n));
            }
            Due.is("drawn(" + seed + ", 40)", x.drawn(seed, 40), water(seed, 40));
        }
    }

    private static void chanceBySeedsThatWrap() {
        WhoBuiltSails x = new WhoBuiltSails();
        for (int part = 0; part < 10; part++) {
            x.set(3, part, 80);
        }
        for (int seed : new int[] {MIN, -20, -1, 0, MAX - 19, MAX - 1, MAX}) {
            for (int m : new int[] {1, 2, 19, 20}) {
                int downs = 0;
                for (int i = 0; i < m; i++) {
                    downs += x.drawn(seed + i, 10) == 100 ? 1 : 0;
                }
                Due.is("chance(" + seed + ", " + m + ")", x.chance(seed, m, 0) * m, x.chance(seed, m, 1) * downs);
            }
            x = new WhoBuiltSails();
            x.set(2, 0, 30);
            for (int part = 0; part < 10; part++) {
                x.set(3, part, 80);
            }
        }
    }

    private static void chanceInLowestTerms() {
        WhoBuiltSails x = new WhoBuiltSails();
        onlyLeak(x);
        for (int m : new int[] {1, 2, 19, 20}) {
            Due.is("none of " + m, x.chance(7, m, 0), 0);
            Due.is("none of " + m + ", below", x.chance(7, m, 1), 1);
        }
        x.set(2, 0, 100);
        for (int m : new int[] {1, 2, 19, 20}) {
            Due.is("all of " + m, x.chance(7, m, 0), 1);
            Due.is("all of " + m + ", below", x.chance(7, m, 1), 1);
        }
    }

    // ---- AN IMAGE

    private static void imageOfNobodyAndOfFive() {
        WhoBuiltSails x = new WhoBuiltSails();
        Due.is("nobody", x.image(), 0);
        for (int i = 0; i < 5; i++) {
            x.wright(0, 0, 0);
        }
        Due.is("five go", x.back(), 0);
        Due.is("none is there", x.count(0), 0);
        for (int i = 0; i < 5; i++) {
            Due.is("five come again", x.wright(i, i, i), i);
        }
        Due.is("no sixth", x.wright(0, 0, 0), Due.FULL);
        Due.is("five", x.image(), 5);
        Due.is("five stay", x.back(), 5);
        Due.is("no sixth", x.wright(0, 0, 0), Due.FULL);
        for (int i = 0; i < 5; i++) {
            Due.is("as they came", x.told(i, 6), i);
        }
    }

    private static void imageKeepsAllThatIsSaid() {
        WhoBuiltSails x = withOne(0, 1, 2);
        x.wright(0, 3, 4);
        Due.text(x, "makes 0;mends 0;pumps 1;");
        x.builds(0, 9);
        x.bound();
        x.set(0, 0, 999);
        x.set(1, 0, 99);
        x.set(2, 0, 100);
        x.set(3, 0, 99);
        x.force(1);
        Due.is("two", x.image(), 2);
        x.home();
        x.set(0, 0, 0);
        x.set(1, 0, 0);
        x.set(2, 0, 0);
        x.set(3, 0, 0);
        x.set(4, 0, 9);
        x.set(5, 1, 99);
        x.home();
        x.builds(1, 9);
        x.builds(1, 8);
        x.force(0);
        Due.is("two", x.back(), 2);
        int[] ship = {999, 99, 100};
        for (int what = 0; what < 3; what++) {
            Due.is("DAY, SEA, WATER", x.told(0, what), ship[what]);
        }
        Due.is("SOUND of the first PART", x.told(0, 3), 99);
        Due.is("SOUND of the last one", x.told(9, 3), 2);
        Due.is("who made it", x.told(9, 10), 0);
        Due.is("nobody made it", x.told(8, 10), Due.NONE);
        Due.is("NUMBER", x.told(0, 4), 1);
        Due.is("SKILL", x.told(1, 5), 4);
        Due.is("ABOARD", x.told(0, 7), 1);
        Due.is("ASHORE", x.told(1, 7), 0);
        Due.is("THE RULE", x.count(5), 1);
        Due.is("DOWN: no DAY", x.day(), Due.STATE);
        Due.is("DOWN: none comes home", x.home(), Due.STATE);
    }

    private static void countsAtTheirBounds() {
        WhoBuiltSails x = new WhoBuiltSails();
        int[] first = {0, 0, 0, 1, 0, 0};
        for (int what = 0; what < 6; what++) {
            Due.is("at first", x.count(what), first[what]);
        }
        for (int i = 0; i < 5; i++) {
            x.wright(0, 0, 0);
            x.builds(i, i);
            x.builds(i, i + 5);
            Due.text(x, "makes 0;mends 0;pumps 1;");
        }
        x.bound();
        x.force(5);
        for (int i = 0; i < 160; i++) {
            x.feed(32);
        }
        int[] last = {5, 10, 5, 6, 160, 5};
        for (int what = 0; what < 6; what++) {
            Due.is("at last", x.count(what), last[what]);
        }
    }

    // ---- the host

    /** What is told of the one who came last: KIND, NUMBER, SKILL as one number. */
    private static int whoCame(WhoBuiltSails x) {
        int one = x.count(0) - 1;
        return (x.told(one, 6) * 10 + x.told(one, 4)) * 100 + x.told(one, 5);
    }

    private static void sheetOf0And40() {
        for (int sheet = 0; sheet < 4; sheet++) {
            for (int sort = 0; sort < 3; sort++) {
                WhoBuiltSails x = new WhoBuiltSails();
                Due.is("missing at first", x.cell(sheet, 0, 0), Due.NOTHING);
                for (int n : new int[] {0, 1, 39, 40}) {
                    Due.is("a row of " + n, x.sheet(sheet, sort, n), 1);
                    Due.is("its last", x.cell(sheet, n - 1, 1), n == 0 ? Due.OUTSIDE : 1);
                    Due.is("behind it", x.cell(sheet, n, 1), Due.OUTSIDE);
                }
                Due.is("all 0 again", x.sheet(sheet, sort, 40), 1);
                Due.is("one comes by the last three", x.gang(sheet, sort, 37, 1), 1);
                Due.is("by 0, 0, 0", whoCame(x), 0);
                for (int other = 0; other < 4; other++) {
                    if (other != sheet) {
                        Due.is("others are missing still", x.cell(other, 0, 0), Due.NOTHING);
                    }
                }
                Due.is("missing", x.sheet(sheet, -1, 40), 1);
                Due.is("missing", x.gang(sheet, sort, 0, 0), Due.NOTHING);
            }
        }
    }

    private static void cellKeepsTheLowestBits() {
        int[][] same = {{0, 256, -256, 512, MIN, 65536}, {0, 65536, -65536, 131072, MIN, 3 << 16}, {0}};
        int[][] other = {{1, -1, 127, 128, 255, 257, MAX}, {1, -1, 256, 32767, 32768, 65535, 65537, MAX},
            {1, -1, 256, 65536, MIN, MAX}};
        for (int sort = 0; sort < 3; sort++) {
            WhoBuiltSails x = withOne(0, 0, 0);
            onlyLeak(x);
            x.sheet(0, sort, 1);
            for (int v : same[sort]) {
                Due.is("cell", x.cell(0, 0, v), 1);
                Due.is(v + " is 0 of sort " + sort, x.tells(0, 0, 0), Due.NONE);
            }
            for (int v : other[sort]) {
                Due.is("cell", x.cell(0, 0, v), 1);
                Due.is(v + " isn't 0 of sort " + sort, x.tells(0, 0, 0), 0);
            }
        }
    }

    private static void copyOntoItself() {
        int[][] calls = {{0, 1, 5}, {1, 0, 5}, {0, 3, 3}, {3, 0, 3}, {0, 0, 6}, {5, 0, 1}, {0, 5, 1}, {6, 6, 0}};
        for (int[] call : calls) {
            WhoBuiltSails x = new WhoBuiltSails();
            int[] due = {1, 2, 3, 4, 5, 0};
            Due.row(x, 0, 1, due);
            Due.is("copy", x.copy(0, call[0], 0, call[1], call[2]), call[2]);
            System.arraycopy(due, call[0], due, call[1], call[2]);
            for (int i = 0; i < 4; i++) {
                Due.is("one comes", x.gang(0, 1, i, 1), 1);
                Due.is("as they were", whoCame(x), (due[i] * 10 + due[i + 1]) * 100 + due[i + 2]);
            }
        }
        WhoBuiltSails y = new WhoBuiltSails();
        Due.row(y, 0, 0, 1, 2, 3);
        Due.row(y, 1, 0, 4, 5, 0);
        Due.is("to another one", y.copy(0, 1, 1, 0, 2), 2);
        y.gang(1, 0, 0, 1);
        Due.is("the other one's third stays", whoCame(y), 2300);
        y.gang(0, 0, 0, 1);
        Due.is("the one's stay", whoCame(y), 1203);
    }

    private static void gangOf0To5() {
        for (int sort = 0; sort < 3; sort++) {
            for (int n = 0; n <= 5; n++) {
                WhoBuiltSails x = new WhoBuiltSails();
                Due.row(x, 2, sort, 0, 5, 9, 99, 4, 8, 98, 3, 7, 97, 2, 6, 96, 1, 5, 95);
                Due.is("so many came", x.gang(2, sort, 1, n), n);
                Due.is("so many are there", x.count(0), n);
                for (int one = 0; one < n; one++) {
                    Due.is("KIND", x.told(one, 6), 5 - one);
                    Due.is("NUMBER", x.told(one, 4), 9 - one);
                    Due.is("SKILL", x.told(one, 5), 99 - one);
                }
                Due.is("for the others there is no room", x.gang(2, sort, 1, 5), 5 - n);
                Due.is("five", x.count(0), 5);
                for (int one = n; one < 5; one++) {
                    Due.is("KIND", x.told(one, 6), 5 - (one - n));
                }
            }
        }
    }

    private static void gangTillOutside() {
        for (int size = 0; size <= 10; size++) {
            for (int from = -1; from <= size + 1; from++) {
                for (int n = 0; n <= 5; n++) {
                    WhoBuiltSails x = new WhoBuiltSails();
                    x.sheet(0, 2, size);
                    int whole = from < 0 ? 0 : Math.max(0, (size - from) / 3);
                    Due.is("gang of " + size + " from " + from + " on, " + n, x.gang(0, 2, from, n),
                        n == 0 ? 0 : from >= 0 && whole >= n ? n : Due.OUTSIDE);
                    Due.is("what stood ahead came", x.count(0), Math.min(whole, n));
                }
            }
        }
    }

    private static void gangLeavesOthersOut() {
        int[][] others = {{6, 0, 0}, {-1, 0, 0}, {0, 10, 0}, {0, -1, 0}, {0, 0, 100}, {0, 0, -1}, {127, 127, 127}};
        for (int[] row : others) {
            for (int sort = 0; sort < 3; sort++) {
                WhoBuiltSails x = new WhoBuiltSails();
                Due.row(x, 0, sort, 1, 2, 3, row[0], row[1], row[2], 4, 5, 6);
                Due.is("two of three", x.gang(0, sort, 0, 3), 2);
                Due.is("the first", x.told(0, 6), 1);
                Due.is("the last", x.told(1, 6), 4);
                Due.is("he alone", x.gang(0, sort, 3, 1), 0);
                Due.is("he and one outside", x.gang(0, sort, 3, 3), Due.OUTSIDE);
                Due.is("one came ahead of it", x.count(0), 3);
            }
        }
    }

    private static void takenOfEachKind() {
        int[][] ways = {{0}, {1, 0}, {2, 0}, {3, 1, 0}, {4, 2, 0}, {5, 0}};
        for (int kind = 0; kind < 6; kind++) {
            for (int number : new int[] {0, 9}) {
                WhoBuiltSails x = withOne(kind, number, 50);
                int[] dues = {-13, -13, -13, -13, -13, -13};
                for (int under : ways[kind]) {
                    dues[under] = number;
                }
                for (int k = 0; k < 6; k++) {
                    Due.is(kind + " taken for " + k, x.taken(0, k), dues[k]);
                }
            }
        }
    }
}
