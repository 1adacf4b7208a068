/** Promises 9 to 14: builds, bound, home, day, run, down. */
public final class YardTest {
    public static void main(String[] args) {
        promise9Builds();
        promise9Refuses();
        promise10Bound();
        promise11Home();
        promise12Day();
        promise12DayWorks();
        promise12AllToldAsItIsThen();
        promise12DayRefuses();
        promise13Run();
        promise13RunRefuses();
        promise14Down();
        Due.ends();
    }

    private static void promise9Builds() {
        WhoBuiltSails x = new WhoBuiltSails();
        x.wright(0, 0, 33);
        x.wright(2, 0, 40);
        Due.is("9 builds", x.builds(0, 4), 33);
        Due.is("9 SOUND", x.told(4, 3), 33);
        Due.is("9 MADE BY", x.told(4, 10), 0);
        Due.is("9 a BROTHER's first", x.builds(1, 5), 20);
        Due.is("9 a BROTHER's next", x.builds(1, 6), 40);
        Due.is("9 the first stays", x.told(5, 3), 20);
        Due.is("9 a PART of another", x.builds(1, 4), 40);
        Due.is("9 is hers no more", x.told(0, 8), 0);
        Due.is("9 but his", x.told(1, 8), 1 << 4 | 1 << 5 | 1 << 6);
        Due.is("9 less SOUND too", x.builds(0, 4), 33);
        x.set(2, 0, 100);
        Due.is("9 while she is DOWN", x.builds(0, 0), 33);
    }

    private static void promise9Refuses() {
        WhoBuiltSails x = new WhoBuiltSails();
        Due.is("9 none such", x.builds(0, 0), Due.BAD);
        x.wright(0, 0, 33);
        Due.is("9 none such", x.builds(1, 0), Due.BAD);
        Due.is("9 none such", x.builds(-1, 0), Due.BAD);
        Due.is("9 no PART", x.builds(0, 10), Due.BAD);
        Due.is("9 no PART", x.builds(0, -1), Due.BAD);
        x.builds(0, 0);
        x.bound();
        Due.is("9 ABOARD", x.builds(0, 1), Due.STATE);
        Due.is("9 BAD ahead of STATE", x.builds(0, 10), Due.BAD);
        Due.is("9 nobody's still", x.told(1, 10), Due.NONE);
        x.set(2, 0, 99);
        x.day();
        x.set(2, 0, 0);
        Due.is("9 LOST", x.builds(0, 1), Due.STATE);
        Due.is("9 not SOUND", x.told(1, 3), 0);
    }

    private static void promise10Bound() {
        WhoBuiltSails x = new WhoBuiltSails();
        Due.is("10 nobody", x.bound(), 0);
        x.wright(0, 0, 33);
        x.wright(0, 0, 33);
        x.wright(0, 0, 33);
        Due.is("10 none made any", x.bound(), 0);
        x.builds(1, 4);
        Due.is("10 who made any", x.bound(), 2);
        Due.is("10 ABOARD", x.told(1, 7), 1);
        Due.is("10 ASHORE", x.told(0, 7), 0);
        x.builds(2, 5);
        Due.is("10 with those ahead", x.bound(), 6);
        x.builds(0, 4);
        Due.is("10 who made any once is ABOARD still", x.bound(), 7);
        x.home();
        Due.is("10 but isn't BOUND again", x.bound(), 5);
        x.set(2, 0, 99);
        x.day();
        Due.is("10 LOST ones aren't BOUND", x.bound(), 0);
        Due.is("10 LOST", x.told(2, 7), 2);
        x.wright(0, 0, 33);
        x.builds(3, 9);
        Due.is("10 she is DOWN", x.bound(), 8);
    }

    private static void promise11Home() {
        WhoBuiltSails x = new WhoBuiltSails();
        Due.is("11 nobody", x.home(), 0);
        x.wright(0, 0, 33);
        x.wright(0, 0, 33);
        x.builds(1, 4);
        Due.is("11 none is ABOARD", x.home(), 0);
        x.bound();
        Due.is("11 who", x.home(), 2);
        Due.is("11 ASHORE", x.told(1, 7), 0);
        Due.is("11 once", x.home(), 0);
        x.bound();
        x.set(2, 0, 100);
        Due.is("11 DOWN", x.home(), Due.STATE);
        Due.is("11 ABOARD still", x.told(1, 7), 1);
        x.set(2, 0, 99);
        Due.is("11 not DOWN", x.home(), 2);
    }

    private static void promise12Day() {
        WhoBuiltSails x = new WhoBuiltSails();
        Due.is("12 a tenth of 150", x.day(), 15);
        Due.is("12 DAY", x.told(0, 0), 1);
        x.set(1, 0, 19);
        Due.is("12 a tenth of 140, odd halves cut one by one", x.day(), 29);
        x.set(3, 0, 99);
        Due.is("12 a tenth of 121, cut", x.day(), 41);
        x.set(2, 0, 90);
        Due.is("12 100 at most", x.day(), 100);
        Due.is("12 DAY", x.told(0, 0), 4);
        Due.is("12 DOWN", x.day(), Due.STATE);
        Due.is("12 DAY stays", x.told(0, 0), 4);
    }

    /** Two ABOARD: the first PUMPS, then mends the worst of what she made; then the next one. */
    private static void promise12DayWorks() {
        WhoBuiltSails x = Due.under("makes skill;mends 4;pumps 5;");
        x.wright(0, 0, 12);
        x.wright(0, 0, 18);
        x.wright(0, 0, 3);
        x.builds(0, 2);
        x.builds(0, 4);
        x.builds(1, 9);
        x.builds(1, 1);
        x.builds(1, 8);
        x.set(3, 1, 2);
        x.set(3, 9, 1);
        x.bound();
        // Leaks: 20 8 -> 0: 20, 1: 9, 2: 8, 3: 10, 4: 8, 5: 10, 6: 20, 7: 10, 8: 2, 9: 9.
        Due.is("12 leak", x.run(0, 2), 106);
        x.set(2, 0, 3);
        Due.is("12 WATER 3 + 10 - 5 - 5", x.day(), 3);
        Due.is("12 of like ones the first", x.told(2, 3), 16);
        Due.is("12 the other one stays", x.told(4, 3), 12);
        Due.is("12 the least", x.told(9, 3), 5);
        Due.is("12 not the first", x.told(1, 3), 2);
        Due.is("12 who made nothing is ASHORE", x.told(2, 7), 0);
        x.day();
        Due.is("12 the next", x.told(4, 3), 16);
        Due.is("12 the next", x.told(1, 3), 6);
        x.set(1, 0, 0);
        Due.is("12 0 at least", x.day(), 0);
        for (int part = 0; part < 10; part++) {
            x.set(3, part, 97);
        }
        x.set(3, 4, 98);
        x.day();
        Due.is("12 99 at most", x.told(2, 3), 99);
        x.day();
        Due.is("12 98, too, is mended", x.told(4, 3), 99);
        Due.is("12 nobody's", x.told(0, 3), 97);
        WhoBuiltSails y = new WhoBuiltSails();
        y.wright(0, 0, 0);
        y.wright(0, 0, 0);
        y.builds(0, 0);
        y.bound();
        y.builds(1, 0);
        Due.is("12 who has no PART any more PUMPS", y.day(), 12);
        Due.is("12 and mends none", y.told(0, 3), 0);
    }

    /** mends tell WATER: what is behind one's own pumping and ahead of the next one's. */
    private static void promise12AllToldAsItIsThen() {
        WhoBuiltSails x = Due.under("makes 99;mends water;pumps 2+(sound=0)*(day=7)*3;");
        x.wright(0, 0, 0);
        x.wright(0, 0, 0);
        x.builds(0, 0);
        x.builds(1, 1);
        x.set(3, 0, 1);
        x.set(3, 1, 1);
        x.bound();
        x.set(1, 0, 1);
        x.set(2, 0, 20);
        x.set(0, 0, 6);
        Due.is("12 WATER", x.day(), 16);
        Due.is("12 behind her own pumping", x.told(0, 3), 19);
        Due.is("12 behind both", x.told(1, 3), 17);
        Due.is("12 DAY is as it is ahead of the end", x.day(), 6);
        WhoBuiltSails y = Due.under("makes 0;mends 1;pumps 4;");
        y.wright(0, 0, 0);
        y.wright(4, 0, 0);
        y.builds(0, 0);
        y.builds(1, 1);
        y.bound();
        y.set(1, 0, 0);
        y.set(2, 0, 33);
        Due.is("12 a CAREFUL one behind another's pumping", y.day(), 29);
        WhoBuiltSails z = Due.under("makes 0;mends 1;pumps 4;");
        z.wright(4, 0, 0);
        z.wright(0, 0, 0);
        z.builds(0, 0);
        z.builds(1, 1);
        z.bound();
        z.set(1, 0, 0);
        z.set(2, 0, 33);
        Due.is("12 a CAREFUL one ahead of it", z.day(), 24);
    }

    private static void promise12DayRefuses() {
        WhoBuiltSails x = new WhoBuiltSails();
        x.set(0, 0, 999);
        Due.is("12 DAY is 999", x.day(), Due.STATE);
        Due.is("12 WATER stays", x.told(0, 2), 0);
        x.set(0, 0, 998);
        Due.is("12 DAY is 998", x.day(), 15);
        Due.is("12 DAY", x.told(0, 0), 999);
        WhoBuiltSails y = new WhoBuiltSails();
        y.wright(0, 0, 0);
        y.wright(0, 0, 0);
        y.builds(0, 0);
        y.bound();
        y.set(2, 0, 100);
        Due.is("12 DOWN", y.day(), Due.STATE);
        Due.is("12 none is LOST", y.told(0, 7), 1);
        y.set(2, 0, 85);
        Due.is("12 just DOWN, nobody PUMPS", y.day(), 100);
        Due.is("12 LOST", y.told(0, 7), 2);
        Due.is("12 nobody mends", y.told(0, 3), 0);
        Due.is("12 who is ASHORE is not", y.told(1, 7), 0);
        y.set(2, 0, 85 - 1);
        Due.is("12 just not", y.day(), 99);
    }

    private static void promise13Run() {
        WhoBuiltSails x = new WhoBuiltSails();
        x.wright(0, 0, 10);
        x.wright(0, 0, 11);
        x.builds(0, 0);
        x.builds(1, 1);
        x.bound();
        // What the two made leaks 10 and half of 9, cut; four UNDER leak 20 each, four others 10.
        Due.is("13 WATER now", x.run(0, 0), 0);
        Due.is("13 LOST now", x.run(0, 1), 0);
        Due.is("13 leak now", x.run(0, 2), 10 + 4 + 80 + 40);
        Due.is("13 SOUND now", x.run(0, 10), 10);
        Due.is("13 WATER behind 1", x.run(1, 0), 7);
        Due.is("13 leak behind 1", x.run(1, 2), 9 + 4 + 120);
        Due.is("13 SOUND behind 1", x.run(1, 10), 11);
        Due.is("13 SOUND behind 1", x.run(1, 11), 12);
        Due.is("13 SOUND behind 1", x.run(1, 19), 0);
        Due.is("13 WATER behind 2", x.run(2, 0), 14);
        int water = 0;
        for (int n = 1; n <= 40; n++) {
            int leak = Math.max(0, 20 - 10 - (n - 1)) + Math.max(0, 20 - 11 - (n - 1)) / 2 + 120;
            if (water < 100) {
                water = Math.min(100, water + leak / 10);
                if (water < 100) {
                    water = Math.max(0, water - 6);
                }
            }
            Due.is("13 WATER behind " + n, x.run(n, 0), water);
            Due.is("13 LOST behind " + n, x.run(n, 1), water == 100 ? 3 : 0);
        }
        Due.is("13 she is DOWN", water, 100);
        Due.is("13 truly nothing passed", x.told(0, 0), 0);
        Due.is("13 truly nobody is LOST", x.told(0, 7), 1);
        Due.is("13 truly no WATER", x.told(0, 2), 0);
        Due.is("13 truly not mended", x.told(0, 3), 10);
        WhoBuiltSails y = Due.under("makes 0;mends 1;pumps (day=1000)*50;");
        y.wright(0, 0, 0);
        y.builds(0, 0);
        y.bound();
        y.set(0, 0, 999);
        Due.is("13 DAY passes 999 in thought", y.run(1, 0), 15);
        Due.is("13 DAY 1000", y.run(2, 0), 0);
        Due.is("13 DAY 1001", y.run(3, 0), 14);
    }

    private static void promise13RunRefuses() {
        WhoBuiltSails x = new WhoBuiltSails();
        int[][] bad = {{-1, 0}, {41, 0}, {0, -1}, {0, 3}, {0, 9}, {0, 20}, {0, Integer.MIN_VALUE},
            {0, Integer.MAX_VALUE}, {Integer.MIN_VALUE, 0}};
        for (int[] call : bad) {
            Due.is("13 run(" + call[0] + ", " + call[1] + ")", x.run(call[0], call[1]), Due.BAD);
        }
        // Those LOST ahead are LOST still.
        x.wright(0, 0, 0);
        x.builds(0, 0);
        x.bound();
        x.set(2, 0, 99);
        x.day();
        x.set(2, 0, 0);
        x.wright(0, 0, 0);
        x.builds(1, 1);
        x.bound();
        Due.is("13 LOST ahead", x.run(1, 1), 1);
        Due.is("13 LOST then", x.run(40, 1), 3);
    }

    private static void promise14Down() {
        WhoBuiltSails x = new WhoBuiltSails();
        Due.is("14 15 a DAY", x.down(), 7);
        x.set(2, 0, 100);
        Due.is("14 now", x.down(), 0);
        x.set(2, 0, 99);
        Due.is("14 next", x.down(), 1);
        x.set(1, 0, 0);
        Due.is("14 NONE", x.down(), Due.NONE);
        Due.is("14 truly not", x.told(0, 0), 0);
        // One PART alone leaks: 10 .. 19 are one a DAY.
        for (int part = 1; part < 10; part++) {
            x.set(3, part, 99);
        }
        x.set(1, 0, 19);
        x.set(2, 0, 40);
        Due.is("14 60 DAYS", x.down(), 60);
        x.set(2, 0, 39);
        Due.is("14 61 DAYS", x.down(), Due.NONE);
    }
}
