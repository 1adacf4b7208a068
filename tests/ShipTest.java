/** Promises 1 to 5: a new object, set, wright, told, asks; how each KIND makes, mends, pumps. */
public final class ShipTest {
    public static void main(String[] args) {
        promise1New();
        promise2Set();
        promise2SetRefuses();
        promise3Wright();
        promise4Told();
        promise4ToldPumps();
        promise5AsksMakes();
        promise5AsksMends();
        promise5Refuses();
        boundOfWhatATextTellsOfMakes();
        boundOfWhatATextTellsOfMends();
        boundOfWhatATextTellsOfPumps();
        boundOfAKnotsText();
        boundOfWhatAKindMakes();
        boundIsLaidOnWhatComesOut();
        Due.ends();
    }

    private static void promise1New() {
        WhoBuiltSails x = new WhoBuiltSails();
        for (int part = 0; part < 10; part++) {
            Due.is("1 maker of " + part, x.told(part, 10), Due.NONE);
            Due.is("1 sound of " + part, x.told(part, 3), 0);
            Due.is("1 leak of " + part, x.told(part, 11), part % 2 == 0 ? 20 : 10);
        }
        Due.is("1 DAY", x.told(0, 0), 0);
        Due.is("1 SEA", x.told(0, 1), 20);
        Due.is("1 WATER", x.told(0, 2), 0);
        Due.is("1 wrights", x.count(0), 0);
        Due.is("1 made", x.count(1), 0);
        Due.is("1 aboard", x.count(2), 0);
        Due.is("1 texts", x.count(3), 1);
        Due.is("1 tape", x.count(4), 0);
        Due.is("1 rule", x.count(5), 0);
        Due.is("1 image", x.back(), Due.STATE);
        for (int sheet = 0; sheet < 4; sheet++) {
            Due.is("1 sheet " + sheet, x.cell(sheet, 0, 0), Due.NOTHING);
        }
        Due.is("1 NONE", WhoBuiltSails.NONE, -1);
        Due.is("1 BAD", WhoBuiltSails.BAD, -2);
        Due.is("1 STATE", WhoBuiltSails.STATE, -3);
        Due.is("1 FULL", WhoBuiltSails.FULL, -4);
        Due.is("1 NO", WhoBuiltSails.NO, -4611686018427387904L);
    }

    private static void promise2Set() {
        WhoBuiltSails x = new WhoBuiltSails();
        x.wright(0, 3, 40);
        x.wright(1, 4, 50);
        Due.is("2 DAY", x.set(0, -77, 999), 0);
        Due.is("2 DAY again", x.set(0, 12, 0), 999);
        Due.is("2 SEA", x.set(1, -77, 99), 20);
        Due.is("2 SEA again", x.set(1, 12, 0), 99);
        Due.is("2 WATER", x.set(2, -77, 100), 0);
        Due.is("2 WATER again", x.set(2, 12, 7), 100);
        Due.is("2 SOUND of 9", x.set(3, 9, 99), 0);
        Due.is("2 SOUND of 9 again", x.set(3, 9, 5), 99);
        Due.is("2 SOUND of 0", x.set(3, 0, 8), 0);
        Due.is("2 NUMBER of 1", x.set(4, 1, 9), 4);
        Due.is("2 SKILL of 1", x.set(5, 1, 99), 50);
        Due.is("2 NUMBER of 0", x.set(4, 0, 0), 3);
        Due.is("2 SKILL of 0", x.set(5, 0, 0), 40);
        Due.is("2 told WATER", x.told(0, 2), 7);
        Due.is("2 told SOUND 9", x.told(9, 3), 5);
        Due.is("2 told SOUND 0", x.told(0, 3), 8);
        Due.is("2 told SOUND 1", x.told(1, 3), 0);
        Due.is("2 told NUMBER 1", x.told(1, 4), 9);
        Due.is("2 told SKILL 1", x.told(1, 5), 99);
        Due.is("2 told NUMBER 0", x.told(0, 4), 0);
        Due.is("2 told SKILL 0", x.told(0, 5), 0);
    }

    private static void promise2SetRefuses() {
        WhoBuiltSails x = new WhoBuiltSails();
        x.wright(0, 3, 40);
        int[][] bad = {
            {-1, 0, 0}, {6, 0, 0}, {Integer.MIN_VALUE, 0, 0}, {Integer.MAX_VALUE, 0, 0},
            {0, 0, 1000}, {0, 0, -1}, {1, 0, 100}, {1, 0, -1}, {2, 0, 101}, {2, 0, -1},
            {3, 10, 0}, {3, -1, 0}, {3, 0, 100}, {3, 0, -1},
            {4, 1, 0}, {4, -1, 0}, {4, 0, 10}, {4, 0, -1},
            {5, 1, 0}, {5, -1, 0}, {5, 0, 100}, {5, 0, -1}};
        for (int[] call : bad) {
            Due.is("2 set(" + call[0] + ", " + call[1] + ", " + call[2] + ")",
                x.set(call[0], call[1], call[2]), Due.BAD);
        }
        Due.is("2 DAY stays", x.told(0, 0), 0);
        Due.is("2 SEA stays", x.told(0, 1), 20);
        Due.is("2 WATER stays", x.told(0, 2), 0);
        Due.is("2 SOUND stays", x.told(0, 3), 0);
        Due.is("2 NUMBER stays", x.told(0, 4), 3);
        Due.is("2 SKILL stays", x.told(0, 5), 40);
    }

    private static void promise3Wright() {
        WhoBuiltSails x = new WhoBuiltSails();
        int[][] bad = {{-1, 0, 0}, {6, 0, 0}, {0, -1, 0}, {0, 10, 0}, {0, 0, -1}, {0, 0, 100}};
        for (int[] call : bad) {
            Due.is("3 BAD", x.wright(call[0], call[1], call[2]), Due.BAD);
        }
        Due.is("3 none came", x.count(0), 0);
        for (int one = 0; one < 5; one++) {
            Due.is("3 number", x.wright(one + 1, 9 - one, 99 - one), one);
        }
        Due.is("3 FULL", x.wright(0, 0, 0), Due.FULL);
        Due.is("3 BAD ahead of FULL", x.wright(6, 0, 0), Due.BAD);
        for (int one = 0; one < 5; one++) {
            Due.is("3 KIND", x.told(one, 6), one + 1);
            Due.is("3 NUMBER", x.told(one, 4), 9 - one);
            Due.is("3 SKILL", x.told(one, 5), 99 - one);
            Due.is("3 ASHORE", x.told(one, 7), 0);
        }
        Due.is("3 five", x.count(0), 5);
    }

    private static void promise4Told() {
        WhoBuiltSails x = new WhoBuiltSails();
        x.wright(0, 3, 30);
        x.wright(5, 2, 7);
        Due.is("4 build", x.builds(0, 3), 30);
        Due.is("4 build", x.builds(0, 9), 30);
        Due.is("4 build", x.builds(1, 5), 99);
        Due.is("4 PARTS of 0", x.told(0, 8), 1 << 3 | 1 << 9);
        Due.is("4 PARTS of 1", x.told(1, 8), 1 << 5);
        Due.is("4 KIND of 1", x.told(1, 6), 5);
        Due.is("4 BY whom", x.told(9, 10), 0);
        Due.is("4 BY nobody", x.told(8, 10), Due.NONE);
        x.bound();
        Due.is("4 ABOARD", x.told(0, 7), 1);
        x.set(2, 0, 99);
        x.day();
        Due.is("4 LOST", x.told(0, 7), 2);
        x.set(1, 0, 35);
        Due.is("4 half of a leak, cut", x.told(3, 11), 2);
        Due.is("4 no leak", x.told(5, 11), 0);
        x.set(3, 4, 34);
        Due.is("4 a leak of 1", x.told(4, 11), 1);
        x.set(3, 4, 35);
        Due.is("4 just SOUND enough", x.told(4, 11), 0);
        x.set(3, 7, 34);
        Due.is("4 half of 1", x.told(7, 11), 0);
        Due.is("4 of does not matter", x.told(-5, 1), 35);
        int[][] none = {{0, -1}, {0, 12}, {10, 3}, {-1, 3}, {2, 4}, {-1, 4}, {2, 5}, {2, 6}, {2, 7}, {2, 8},
            {2, 9}, {10, 10}, {-1, 10}, {10, 11}, {-1, 11}, {0, Integer.MIN_VALUE}, {Integer.MAX_VALUE, 9}};
        for (int[] call : none) {
            Due.is("4 told(" + call[0] + ", " + call[1] + ")", x.told(call[0], call[1]), Due.NONE_SUCH);
        }
    }

    /** pumps 3, others ABOARD and WATER as they are then. */
    private static void promise4ToldPumps() {
        WhoBuiltSails x = Due.under("makes 1; mends 1; pumps 7;");
        for (int kind = 0; kind < 5; kind++) {
            x.wright(kind, 5, 0);
        }
        int[] ashore = {7, 3, 7, 3, 0};
        for (int one = 0; one < 5; one++) {
            Due.is("4 PUMPS of kind " + one, x.told(one, 9), ashore[one]);
            x.builds(one, one);
        }
        x.bound();
        x.set(2, 0, 29);
        int[] aboard = {7, 3, 11, 3, 0};
        for (int one = 0; one < 5; one++) {
            Due.is("4 PUMPS of kind " + one + " with four", x.told(one, 9), aboard[one]);
        }
        x.set(2, 0, 30);
        Due.is("4 PUMPS of CAREFUL at 30", x.told(4, 9), 11);
        WhoBuiltSails y = new WhoBuiltSails();
        y.wright(5, 8, 99);
        Due.is("4 PUMPS of FIGUREHEAD", y.told(0, 9), 8);
    }

    private static void promise5AsksMakes() {
        WhoBuiltSails x = new WhoBuiltSails();
        x.wright(1, 4, 31);
        x.wright(2, 4, 31);
        x.wright(3, 4, 31);
        x.wright(4, 4, 31);
        x.wright(5, 4, 31);
        int[] under = {35, 15, 35, 25, 0};
        int[] above = {31, 15, 31, 25, 99};
        for (int one = 0; one < 5; one++) {
            Due.is("5 MAKES under", x.asks(one, 4, 0), under[one]);
            Due.is("5 MAKES above", x.asks(one, 5, 0), above[one]);
            x.builds(one, one);
        }
        // The PART that one has made is no other one when it is asked of.
        Due.is("5 BROTHER, the same", x.asks(1, 1, 0), 15);
        Due.is("5 BROTHER, another", x.asks(1, 2, 0), 31);
        Due.is("5 KNOT, the same", x.asks(2, 2, 0), 35);
        Due.is("5 KNOT, another under", x.asks(2, 6, 0), 36);
        Due.is("5 KNOT, another above", x.asks(2, 7, 0), 32);
        Due.is("5 CAREFUL, another", x.asks(3, 9, 0), 41);
        x.builds(2, 8);
        Due.is("5 KNOT, two others", x.asks(2, 6, 0), 37);
        x.set(5, 0, 99);
        Due.is("5 the bound", x.asks(0, 0, 0), 99);
        Due.is("5 nothing is built", x.told(6, 10), Due.NONE);
    }

    private static void promise5AsksMends() {
        WhoBuiltSails x = Due.under("makes 1; mends 6; pumps 1;");
        for (int kind = 0; kind < 5; kind++) {
            x.wright(kind, 5, 0);
        }
        int[] under = {6, 12, 6, 13, 6};
        int[] above = {6, 6, 6, 7, 6};
        for (int one = 0; one < 5; one++) {
            Due.is("5 MENDS under", x.asks(one, 8, 1), under[one]);
            Due.is("5 MENDS above", x.asks(one, 9, 1), above[one]);
        }
        x.set(3, 8, 49);
        Due.is("5 CAREFUL mends 49", x.asks(4, 8, 1), 6);
        x.set(3, 8, 50);
        Due.is("5 CAREFUL mends 50", x.asks(4, 8, 1), 0);
        WhoBuiltSails y = new WhoBuiltSails();
        y.wright(5, 8, 99);
        Due.is("5 FIGUREHEAD mends", y.asks(0, 0, 1), 0);
    }

    private static void promise5Refuses() {
        WhoBuiltSails x = new WhoBuiltSails();
        Due.is("5 none such", x.asks(0, 0, 0), Due.BAD);
        x.wright(0, 0, 0);
        int[][] bad = {{1, 0, 0}, {-1, 0, 0}, {0, -1, 0}, {0, 10, 0}, {0, 0, -1}, {0, 0, 2}};
        for (int[] call : bad) {
            Due.is("5 BAD", x.asks(call[0], call[1], call[2]), Due.BAD);
        }
    }

    private static void boundOfWhatATextTellsOfMakes() {
        WhoBuiltSails x = Due.under("makes skill*3-number*20; mends 1; pumps 0;");
        x.wright(2, 0, 50);
        x.wright(1, 9, 58);
        x.wright(4, 1, 1);
        x.wright(3, 0, 90);
        Due.is("5 half of 150 that is 99", x.asks(0, 1, 0), 49);
        Due.is("5 9 more than -6 that is 0", x.asks(1, 0, 0), 9);
        Due.is("5 -6 as it is", x.asks(1, 1, 0), 0);
        Due.is("5 10 more than half of -17 that is 0", x.asks(2, 1, 0), 10);
        Due.is("9 builds tells the same", x.builds(0, 1), 49);
        Due.is("9 SOUND is the same", x.told(1, 3), 49);
        Due.is("5 with another one, 150 is 99", x.asks(0, 3, 0), 99);
        x.set(4, 3, 9);
        x.set(5, 3, 50);
        Due.is("9 a KNOT's -30 that is 0, and 9", x.builds(3, 4), 9);
        Due.is("9 a KNOT's -30 that is 0, and 1", x.builds(3, 5), 1);
        Due.is("9 a KNOT's -30 that is 0, and 9 and 2", x.builds(3, 6), 11);
    }

    private static void boundOfWhatATextTellsOfMends() {
        WhoBuiltSails x = Due.under("makes 1; mends skill-40; pumps 0;");
        x.wright(0, 0, 39);
        x.wright(1, 0, 39);
        x.wright(3, 0, 30);
        x.wright(4, 0, 0);
        int[] under = {0, 0, 1, 0};
        for (int one = 0; one < 4; one++) {
            Due.is("5 MENDS below 0 under", x.asks(one, 2, 1), under[one]);
            Due.is("5 MENDS below 0 above", x.asks(one, 3, 1), under[one]);
        }
        x.builds(2, 2);
        x.bound();
        Due.is("12 a KNOT mends by 1, not by -19", x.run(1, 12), 2);
        Due.is("12 two DAYS", x.run(2, 12), 3);
    }

    private static void boundOfWhatATextTellsOfPumps() {
        WhoBuiltSails x = Due.under("makes 1; mends 0; pumps skill-40;");
        x.wright(2, 0, 37);
        x.wright(4, 0, 0);
        x.wright(1, 0, 39);
        x.wright(3, 0, 0);
        for (int one = 0; one < 4; one++) {
            x.builds(one, one);
        }
        x.bound();
        x.set(2, 0, 30);
        int[] due = {3, 3, 0, 0};
        for (int one = 0; one < 4; one++) {
            Due.is("4 PUMPS below 0 of " + one, x.told(one, 9), due[one]);
        }
        WhoBuiltSails y = Due.under("makes 1; mends 0; pumps skill*3;");
        y.wright(1, 0, 50);
        y.wright(3, 0, 34);
        y.wright(0, 0, 33);
        y.wright(0, 0, 34);
        Due.is("4 half of 150 that is 99", y.told(0, 9), 49);
        Due.is("4 half of 102 that is 99", y.told(1, 9), 49);
        Due.is("4 just 99", y.told(2, 9), 99);
        Due.is("4 102 as it is", y.told(3, 9), 99);
    }

    /** Issue 5, and the same asked of what mends and pumps tell. */
    private static void boundOfAKnotsText() {
        WhoBuiltSails x = Due.under("makes skill-(part)*5;mends 0-5*part;pumps 0-300;");
        x.wright(3, 0, 0);
        x.builds(0, 0);
        Due.is("5 a KNOT's -5 that is 0, and 1", x.asks(0, 1, 0), 1);
        Due.is("5 a KNOT mends -5 that is 0, and 1", x.asks(0, 1, 1), 1);
        x.wright(2, 0, 0);
        x.bound();
        Due.is("4 a BROTHER's -300 that is 0, and 1", x.told(1, 9), 1);
    }

    /** What a KIND adds to v is bounded, too. */
    private static void boundOfWhatAKindMakes() {
        WhoBuiltSails x = Due.under("makes 98; mends 98; pumps 98;");
        for (int kind = 0; kind < 5; kind++) {
            x.wright(kind, 9, 0);
            x.builds(kind, kind + 1);
        }
        for (int kind = 0; kind < 5; kind++) {
            x.builds(kind, kind + 5);
        }
        x.bound();
        x.set(2, 0, 30);
        int[] makes = {98, 99, 98, 99, 99};
        int[] mends = {98, 99, 98, 99, 98};
        int[] pumps = {98, 49, 99, 49, 99};
        x.set(3, 0, 0);
        for (int one = 0; one < 5; one++) {
            Due.is("5 the bound of what KIND " + one + " MAKES", x.asks(one, 0, 0), makes[one]);
            Due.is("5 the bound of what KIND " + one + " MENDS", x.asks(one, 0, 1), mends[one]);
            Due.is("4 the bound of what KIND " + one + " PUMPS", x.told(one, 9), pumps[one]);
        }
    }

    /** The bound is not laid on what an E is put together from, nor between a KIND and the one it is under. */
    private static void boundIsLaidOnWhatComesOut() {
        WhoBuiltSails x = Due.under("makes skill*3-200+part; mends 0-skill+150; pumps skill*0-5+number*30;");
        x.wright(0, 3, 99);
        x.wright(1, 1, 99);
        x.wright(3, 0, 50);
        Due.is("5 297 less 200", x.asks(0, 0, 0), 97);
        Due.is("5 -99 and 150", x.asks(0, 0, 1), 51);
        Due.is("5 twice 51", x.asks(1, 0, 1), 99);
        Due.is("5 51 above", x.asks(1, 1, 1), 51);
        Due.is("5 a KNOT's twice 99 and 1", x.asks(2, 0, 1), 99);
        Due.is("4 -5 and 90", x.told(0, 9), 85);
        Due.is("4 half of -5 and 30", x.told(1, 9), 12);
        Due.is("4 half of -5 that is 0", x.told(2, 9), 0);
        Due.is("5 one more than 97", x.asks(1, 0, 0), 98);
        x.set(4, 1, 9);
        Due.is("5 9 more than 97", x.asks(1, 0, 0), 99);
    }
}
