/** Promises 15 to 19: yard, stands, go, worst, mean. */
public final class BestTest {
    public static void main(String[] args) {
        promise15Yard();
        promise15YardAgainstAllWays();
        promise15YardOfFewer();
        promise15Refuses();
        promise16Stands();
        promise16StandsAgainstRun();
        promise17Go();
        promise17GoOfLost();
        promise17GoOfAll();
        promise18Worst();
        promise19Mean();
        Due.ends();
    }

    private static void promise15Yard() {
        WhoBuiltSails x = Due.under("makes skill;mends 1;pumps 3;");
        Due.is("15 nobody", x.yard(2, 0), 0);
        Due.is("15 nobody's WATER", x.yard(2, 1), 30);
        x.wright(0, 0, 5);
        x.wright(0, 0, 20);
        x.wright(5, 9, 0);
        x.set(1, 0, 50);
        x.set(2, 0, 60);
        // The FIGUREHEAD builds the one that isn't UNDER; that all three PUMP is worth more than SKILL.
        Due.is("15 who", x.yard(1, 0), yardOf(0, 2, 1));
        Due.is("15 WATER", x.yard(1, 1), 60 + (45 + 30 + 3 * 50 + 4 * 25) / 10 - 3 - 3 - 9);
        Due.is("15 nothing is built", x.count(1), 0);
        Due.is("15 nobody is ABOARD", x.count(2), 0);
        Due.is("15 0 DAYS: all are alike", x.yard(0, 0), yardOf(0, 0, 0));
        Due.is("15 0 DAYS' WATER", x.yard(0, 1), 60);
        x.set(2, 0, 100);
        Due.is("15 DOWN: all are alike", x.yard(5, 0), yardOf(0, 0, 0));
        Due.is("15 DOWN", x.yard(5, 1), 100);
    }

    private static int yardOf(int... who) {
        int way = 0;
        for (int one : who) {
            way = way * 6 + one + 1;
        }
        return way;
    }

    /** The same, built and BOUND truly on objects of their own. */
    private static void promise15YardAgainstAllWays() {
        for (int n = 0; n <= 20; n += 4) {
            int best = 0;
            int least = 101;
            for (int i = 0; i < 5; i++) {
                for (int j = 0; j < 5; j++) {
                    for (int k = 0; k < 5; k++) {
                        WhoBuiltSails x = five();
                        int[] who = {i, j, k};
                        for (int part = 3; part < 6; part++) {
                            x.builds(who[part - 3], part == 5 ? 8 : part);
                        }
                        x.bound();
                        int water = x.run(n, 0);
                        if (i != 1 && j != 1 && k != 1 && water < least) {
                            least = water;
                            best = yardOf(i, j, k);
                        }
                    }
                }
            }
            Due.is("15 yard(" + n + ", 0)", five().yard(n, 0), best);
            Due.is("15 yard(" + n + ", 1)", five().yard(n, 1), least);
        }
    }

    /** Of all KINDS; 3, 4, 8 and 9 are nobody's; wright 1 is ABOARD. */
    private static WhoBuiltSails five() {
        WhoBuiltSails x = Due.under("makes skill+part;mends 1+(sound<20);pumps 2;");
        x.wright(1, 6, 12);
        x.wright(0, 3, 33);
        x.wright(2, 2, 44);
        x.wright(3, 4, 21);
        x.wright(4, 5, 26);
        x.builds(1, 0);
        x.builds(1, 1);
        x.bound();
        x.builds(0, 2);
        x.builds(2, 5);
        x.builds(3, 6);
        x.builds(3, 7);
        x.set(1, 0, 61);
        x.set(2, 0, 30);
        return x;
    }

    private static void promise15YardOfFewer() {
        WhoBuiltSails x = new WhoBuiltSails();
        x.wright(0, 0, 30);
        x.wright(0, 0, 31);
        for (int part = 0; part < 8; part++) {
            x.builds(0, part);
        }
        x.set(1, 0, 99);
        Due.is("15 two PARTS", x.yard(2, 0), yardOf(0, 1));
        x.builds(0, 8);
        Due.is("15 one PART", x.yard(2, 0), yardOf(1));
        x.builds(0, 9);
        Due.is("15 no PART", x.yard(2, 0), 0);
        x.set(1, 0, 60);
        // Five leak 30, five half of it, and the one who made them PUMPS 3.
        Due.is("15 no PART's WATER, all being BOUND", x.yard(1, 1), (5 * 30 + 5 * 15) / 10 - 3);
        Due.is("15 not BOUND truly", x.run(1, 0), 22);
    }

    private static void promise15Refuses() {
        WhoBuiltSails x = new WhoBuiltSails();
        int[][] bad = {{-1, 0}, {21, 0}, {0, -1}, {0, 2}};
        for (int[] call : bad) {
            Due.is("15 BAD", x.yard(call[0], call[1]), Due.BAD);
        }
    }

    private static void promise16Stands() {
        WhoBuiltSails x = new WhoBuiltSails();
        Due.is("16 one DAY", x.stands(1), 99);
        x.set(2, 0, 99);
        Due.is("16 less than 10 leak: SEA 1", x.stands(1), 1);
        x.set(2, 0, 100);
        Due.is("16 NONE", x.stands(1), Due.NONE);
        Due.is("16 NONE", x.stands(40), Due.NONE);
        Due.is("16 SEA stays", x.told(0, 1), 20);
        x.set(2, 0, 0);
        Due.is("16 40 DAYS, 2 each", x.stands(40), 3);
        for (int part = 0; part < 10; part++) {
            x.set(3, part, 99);
        }
        Due.is("16 all SOUND", x.stands(40), 99);
        Due.is("16 0", x.stands(0), Due.BAD);
        Due.is("16 41", x.stands(41), Due.BAD);
        Due.is("16 below", x.stands(-1), Due.BAD);
    }

    private static void promise16StandsAgainstRun() {
        for (int n = 1; n <= 40; n += 3) {
            WhoBuiltSails x = five();
            x.bound();
            int due = Due.NONE;
            for (int sea = 0; sea <= 99; sea++) {
                x.set(1, 0, sea);
                if (x.run(n, 0) < 100) {
                    due = sea;
                }
            }
            x.set(1, 0, 7);
            Due.is("16 stands(" + n + ")", x.stands(n), due);
        }
    }

    private static void promise17Go() {
        WhoBuiltSails x = new WhoBuiltSails();
        Due.is("17 none at all", x.go(6, 0), 0);
        Due.is("17 NONE", x.go(7, 0), Due.NONE);
        Due.is("17 NONE", x.go(7, 1), Due.NONE);
        x.wright(5, 1, 0);
        x.wright(5, 2, 0);
        x.wright(5, 2, 0);
        x.wright(5, 9, 0);
        // 15 a DAY come in, and at the end 14 must have room: 7 DAYS are 105.
        Due.is("17 1 is enough, the last DAY's isn't pumped", x.go(7, 0), 1);
        Due.is("17 how many", x.go(7, 1), 1);
        x.set(2, 0, 4);
        Due.is("17 6 DAYS of 2, the least as bits", x.go(7, 0), 2);
        x.set(2, 0, 7);
        Due.is("17 9 alone", x.go(7, 0), 8);
        x.set(4, 3, 0);
        Due.is("17 two, the least as bits", x.go(7, 0), 3);
        Due.is("17 two", x.go(7, 1), 2);
        x.set(2, 0, 13);
        Due.is("17 two of 2", x.go(7, 0), 6);
        x.set(2, 0, 18);
        Due.is("17 two of 2 to the brim", x.go(7, 0), 6);
        x.set(2, 0, 19);
        Due.is("17 three", x.go(7, 0), 7);
        Due.is("17 three", x.go(7, 1), 3);
        x.set(2, 0, 25);
        Due.is("17 not by all", x.go(7, 0), Due.NONE);
        Due.is("17 0 DAYS", x.go(0, 0), 0);
        Due.is("17 0 DAYS", x.go(0, 1), 0);
        Due.is("17 nobody is ABOARD truly", x.count(2), 0);
        x.set(2, 0, 100);
        Due.is("17 DOWN", x.go(0, 0), Due.NONE);
        int[][] bad = {{-1, 0}, {41, 0}, {0, -1}, {0, 2}};
        for (int[] call : bad) {
            Due.is("17 BAD", x.go(call[0], call[1]), Due.BAD);
        }
    }

    private static void promise17GoOfLost() {
        WhoBuiltSails x = new WhoBuiltSails();
        x.wright(5, 9, 0);
        x.wright(5, 9, 0);
        x.wright(5, 9, 0);
        x.builds(0, 0);
        x.bound();
        x.set(2, 0, 99);
        x.day();
        x.builds(1, 0);
        x.bound();
        x.set(2, 0, 0);
        Due.is("17 who is LOST doesn't go", x.go(7, 0), 2);
        x.set(2, 0, 90);
        x.set(1, 0, 12);
        Due.is("17 who is ABOARD now may stay", x.go(1, 0), 0);
        Due.is("17 PUMPS count others ABOARD just then", x.go(4, 0), 2);
        WhoBuiltSails y = Due.under("makes 0;mends 0;pumps 1;");
        for (int i = 0; i < 5; i++) {
            y.wright(2, 0, 0);
            y.builds(i, i);
        }
        y.bound();
        y.set(2, 0, 61);
        // k BROTHERS pump k * k a DAY, ahead of the second DAY's 15.
        Due.is("17 61 + 30 is dry enough", y.go(2, 0), 0);
        y.set(2, 0, 71);
        Due.is("17 one pumps 1, two pump 4", y.go(2, 0), 3);
        y.set(2, 0, 78);
        Due.is("17 three pump 9", y.go(2, 0), 7);
        y.set(2, 0, 84);
        Due.is("17 four pump 16", y.go(2, 0), 15);
        Due.is("17 four", y.go(2, 1), 4);
        y.set(2, 0, 85);
        Due.is("17 DOWN on the first DAY", y.go(2, 0), Due.NONE);
    }

    private static void promise17GoOfAll() {
        WhoBuiltSails x = new WhoBuiltSails();
        for (int i = 0; i < 5; i++) {
            x.wright(5, 1, 0);
        }
        // 15 a DAY come in, 5 are PUMPED, four times ahead of the fifth.
        x.set(2, 0, 44);
        Due.is("17 all must go", x.go(5, 0), 31);
        Due.is("17 all", x.go(5, 1), 5);
        x.set(2, 0, 45);
        Due.is("17 all aren't enough", x.go(5, 0), Due.NONE);
    }

    private static void promise18Worst() {
        WhoBuiltSails x = new WhoBuiltSails();
        Due.is("18 the first", x.worst(), 0);
        x.set(3, 0, 1);
        Due.is("18 the next one UNDER", x.worst(), 2);
        for (int part = 0; part < 10; part += 2) {
            x.set(3, part, 10);
        }
        Due.is("18 10 as 10", x.worst(), 0);
        x.set(3, 0, 11);
        Due.is("18 a half", x.worst(), 1);
        x.set(1, 0, 1);
        Due.is("18 a half of 1 is none", x.worst(), Due.NONE);
        x.set(1, 0, 0);
        Due.is("18 none", x.worst(), Due.NONE);
        x.set(1, 0, 99);
        x.set(3, 8, 0);
        Due.is("18 the last UNDER", x.worst(), 8);
        for (int part = 0; part < 9; part++) {
            x.set(3, part, 99);
        }
        x.set(3, 9, 97);
        Due.is("18 the last", x.worst(), 9);
        x.set(3, 9, 98);
        Due.is("18 none", x.worst(), Due.NONE);
    }

    private static void promise19Mean() {
        WhoBuiltSails x = new WhoBuiltSails();
        mean(x, 0, 1);
        x.set(3, 0, 1);
        mean(x, 1, 10);
        x.set(3, 9, 1);
        mean(x, 1, 5);
        x.set(3, 4, 3);
        mean(x, 1, 2);
        x.set(3, 4, 99);
        mean(x, 101, 10);
        x.set(3, 4, 98);
        mean(x, 10, 1);
        x.set(3, 4, 42);
        mean(x, 22, 5);
        for (int part = 0; part < 10; part++) {
            x.set(3, part, 99);
        }
        mean(x, 99, 1);
        Due.is("19 NO", x.mean(-1), WhoBuiltSails.NO);
        Due.is("19 NO", x.mean(2), WhoBuiltSails.NO);
    }

    private static void mean(WhoBuiltSails x, long above, long below) {
        Due.is("19 above", x.mean(0), above);
        Due.is("19 below", x.mean(1), below);
    }
}
