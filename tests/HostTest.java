/** Promises 27 to 31: sheet, cell, copy, gang, taken. */
public final class HostTest {
    private static final int MIN = Integer.MIN_VALUE, MAX = Integer.MAX_VALUE;

    public static void main(String[] args) {
        promise27Sheet();
        promise28Cell();
        promise29Copy();
        promise29Refuses();
        promise30Gang();
        promise30Refuses();
        promise31Taken();
        Due.ends();
    }

    /** What item i of a SHEET tells, if it is 0 .. 99: the SKILL of one who comes by it. */
    private static void item(WhoBuiltSails x, int sheet, int sort, int i, int due) {
        WhoBuiltSails y = x;
        y.image();
        Due.is("one comes by " + i, y.gang(sheet, sort, i - 2, 1), 1);
        Due.is("item " + i, y.told(y.count(0) - 1, 5), due);
        y.back();
    }

    private static void promise27Sheet() {
        WhoBuiltSails x = new WhoBuiltSails();
        Due.is("27 no SHEET", x.sheet(-1, 0, 0), Due.BAD);
        Due.is("27 no SHEET", x.sheet(4, 0, 0), Due.BAD);
        Due.is("27 no SHEET ahead of -14", x.sheet(4, 0, -1), Due.BAD);
        Due.is("27 sort", x.sheet(0, 3, 0), Due.BAD);
        Due.is("27 sort", x.sheet(0, -2, 0), Due.BAD);
        Due.is("27 sort ahead of -14", x.sheet(0, 3, -1), Due.BAD);
        Due.is("27 n", x.sheet(0, 0, 41), Due.BAD);
        Due.is("27 n", x.sheet(0, 0, MAX), Due.BAD);
        Due.is("27 below 0", x.sheet(0, 2, -1), Due.BELOW_ZERO);
        Due.is("27 below 0", x.sheet(0, 2, MIN), Due.BELOW_ZERO);
        Due.is("27 missing still", x.cell(0, 0, 0), Due.NOTHING);
        for (int sort = 0; sort < 3; sort++) {
            Due.is("27 of 40", x.sheet(sort, sort, 40), 1);
            Due.is("27 the last", x.cell(sort, 39, 7), 1);
            Due.is("27 behind it", x.cell(sort, 40, 7), Due.OUTSIDE);
        }
        item(x, 1, 1, 39, 7);
        Due.is("27 anew", x.sheet(1, 1, 40), 1);
        item(x, 1, 1, 39, 0);
        Due.is("27 of 0", x.sheet(3, 2, 0), 1);
        Due.is("27 has none", x.cell(3, 0, 0), Due.OUTSIDE);
        Due.is("27 refused", x.sheet(1, 0, -1), Due.BELOW_ZERO);
        Due.is("27 stays", x.cell(1, 39, 0), 1);
        Due.is("27 missing", x.sheet(1, -1, 99), 1);
        Due.is("27 missing", x.cell(1, 0, 0), Due.NOTHING);
        Due.is("27 missing again, n below", x.sheet(1, -1, -99), 1);
        Due.is("27 another one stays", x.cell(2, 39, 0), 1);
        // A row that is shorter than the one ahead of it, then longer again.
        Due.row(x, 0, 2, 1, 2, 33);
        x.sheet(0, 2, 1);
        x.sheet(0, 2, 3);
        item(x, 0, 2, 2, 0);
        Due.is("27 the first item is 0, too", x.gang(0, 2, 0, 1), 1);
        Due.is("27 KIND 0", x.told(0, 6), 0);
    }

    private static void promise28Cell() {
        WhoBuiltSails x = new WhoBuiltSails();
        Due.is("28 no SHEET", x.cell(-1, 0, 0), Due.BAD);
        Due.is("28 no SHEET", x.cell(4, 0, 0), Due.BAD);
        Due.is("28 missing", x.cell(0, 0, 0), Due.NOTHING);
        Due.is("28 missing ahead of outside", x.cell(0, -1, 0), Due.NOTHING);
        x.sheet(0, 0, 3);
        x.sheet(1, 1, 3);
        x.sheet(2, 2, 3);
        Due.is("28 outside", x.cell(0, -1, 0), Due.OUTSIDE);
        Due.is("28 outside", x.cell(0, 3, 0), Due.OUTSIDE);
        Due.is("28 outside", x.cell(0, MIN, 0), Due.OUTSIDE);
        Due.is("28 outside", x.cell(0, MAX, 0), Due.OUTSIDE);
        Due.is("28 the lowest 8 bits", x.cell(0, 2, 256 + 65), 1);
        item(x, 0, 0, 2, 65);
        Due.is("28 the lowest 8 bits of one below 0", x.cell(0, 2, -256 + 66), 1);
        item(x, 0, 0, 2, 66);
        Due.is("28 the lowest 16 bits", x.cell(1, 2, 65536 * 3 + 67), 1);
        item(x, 1, 1, 2, 67);
        Due.is("28 not the lowest 8 alone", x.cell(1, 2, 256 + 65), 1);
        Due.is("28 none comes by 321", x.gang(1, 1, 0, 1), 0);
        Due.is("28 all bits", x.cell(2, 2, 65536 + 1), 1);
        Due.is("28 none comes by 65537", x.gang(2, 2, 0, 1), 0);
        Due.is("28 all bits", x.cell(2, 2, 68), 1);
        item(x, 2, 2, 2, 68);
        Due.is("28 the first", x.cell(2, 0, 5), 1);
        Due.is("28 one of KIND 5", x.gang(2, 2, 0, 1), 1);
        Due.is("28 KIND 5", x.told(0, 6), 5);
    }

    private static void promise29Copy() {
        WhoBuiltSails x = new WhoBuiltSails();
        Due.row(x, 0, 1, 0, 1, 2, 0, 4, 5, 0, 7, 8);
        x.sheet(1, 1, 5);
        Due.is("29 copy", x.copy(0, 3, 1, 2, 3), 3);
        item(x, 1, 1, 4, 5);
        item(x, 0, 1, 5, 5);
        Due.is("29 on one", x.copy(0, 0, 0, 3, 6), 6);
        item(x, 0, 1, 5, 2);
        item(x, 0, 1, 8, 5);
        Due.row(x, 0, 1, 0, 1, 2, 0, 4, 5, 0, 7, 8);
        Due.is("29 down on one", x.copy(0, 3, 0, 0, 6), 6);
        item(x, 0, 1, 2, 5);
        item(x, 0, 1, 5, 8);
        Due.is("29 none", x.copy(0, 9, 1, 5, 0), 0);
        Due.is("29 none within", x.copy(0, 2, 1, 2, 0), 0);
        x.sheet(2, 1, 0);
        Due.is("29 none of none", x.copy(2, 0, 2, 0, 0), 0);
        Due.is("29 all", x.copy(0, 0, 0, 0, 9), 9);
    }

    private static void promise29Refuses() {
        WhoBuiltSails x = new WhoBuiltSails();
        x.sheet(0, 0, 3);
        x.sheet(1, 1, 3);
        x.sheet(2, 0, 5);
        Due.is("29 no SHEET", x.copy(-1, 0, 0, 0, 1), Due.BAD);
        Due.is("29 no SHEET", x.copy(0, 0, 4, 0, 1), Due.BAD);
        Due.is("29 no SHEET ahead of missing", x.copy(3, 0, 4, 0, 1), Due.BAD);
        Due.is("29 missing", x.copy(0, 0, 3, 0, 1), Due.NOTHING);
        Due.is("29 missing", x.copy(3, 0, 0, 0, 1), Due.NOTHING);
        Due.is("29 missing ahead of outside", x.copy(3, 9, 0, 9, -1), Due.NOTHING);
        Due.is("29 another sort", x.copy(0, 0, 1, 0, 1), Due.OTHER_SORT);
        Due.is("29 another sort ahead of outside", x.copy(0, 9, 1, 9, -1), Due.OTHER_SORT);
        int[][] outside = {{0, 0, 4}, {-1, 0, 1}, {0, -1, 1}, {3, 0, 1}, {0, 5, 1}, {0, 0, -1}, {2, 0, 2}, {0, 3, 3},
            {4, 0, 0}, {0, 6, 0}, {-1, 0, 0}, {0, -1, 0}, {1, 0, MAX}, {MAX, 0, 1}, {0, MAX, 1}, {MAX, MAX, MAX},
            {MIN, 0, MIN}, {0, 0, MIN}, {MIN, MIN, 3}};
        for (int[] call : outside) {
            Due.is("29 copy(0, " + call[0] + ", 2, " + call[1] + ", " + call[2] + ")",
                x.copy(0, call[0], 2, call[1], call[2]), Due.OUTSIDE);
        }
    }

    private static void promise30Gang() {
        WhoBuiltSails x = new WhoBuiltSails();
        Due.row(x, 0, 0, 99, 1, 2, 3, 2, 4, 5, 6, 0, 0, 3, 4, 100, 5, 9, 99);
        Due.is("30 none", x.gang(0, 0, 0, 0), 0);
        Due.is("30 none from outside", x.gang(0, 0, -9, 0), 0);
        Due.is("30 two", x.gang(0, 0, 1, 2), 2);
        Due.is("30 KIND", x.told(0, 6), 1);
        Due.is("30 NUMBER", x.told(0, 4), 2);
        Due.is("30 SKILL", x.told(0, 5), 3);
        Due.is("30 KIND", x.told(1, 6), 2);
        Due.is("30 NUMBER", x.told(1, 4), 4);
        Due.is("30 SKILL", x.told(1, 5), 5);
        Due.is("30 ASHORE", x.told(1, 7), 0);
        Due.is("30 two, both left out", x.gang(0, 0, 7, 2), 0);
        Due.is("30 none came by (6, 0, 0), (3, 4, 100)", x.count(0), 2);
        Due.is("30 the last", x.gang(0, 0, 13, 1), 1);
        Due.is("30 of KIND 5", x.told(2, 6), 5);
        Due.is("30 what stood ahead came", x.gang(0, 0, 4, 5), Due.OUTSIDE);
        Due.is("30 two more", x.count(0), 5);
        Due.is("30 full: left out", x.gang(0, 0, 1, 2), 0);
        Due.is("30 full: five", x.count(0), 5);
        Due.is("30 outside though full", x.gang(0, 0, 10, 3), Due.OUTSIDE);
        WhoBuiltSails y = new WhoBuiltSails();
        Due.row(y, 3, 2, 0, 1, 2, -1, 4, 5, 0, 7, 8, 0, 10, 11, 0, 13 - 4, 14);
        Due.is("30 three of five", y.gang(3, 2, 0, 5), 3);
        Due.is("30 the third", y.told(2, 5), 14);
    }

    private static void promise30Refuses() {
        WhoBuiltSails x = new WhoBuiltSails();
        Due.row(x, 0, 1, 0, 1, 2, 3, 4);
        Due.is("30 no SHEET", x.gang(-1, 0, 0, 0), Due.BAD);
        Due.is("30 no SHEET", x.gang(4, 0, 0, 0), Due.BAD);
        Due.is("30 sort", x.gang(0, -1, 0, 0), Due.BAD);
        Due.is("30 sort", x.gang(0, 3, 0, 0), Due.BAD);
        Due.is("30 n", x.gang(0, 1, 0, -1), Due.BAD);
        Due.is("30 n", x.gang(0, 1, 0, 6), Due.BAD);
        Due.is("30 BAD ahead of missing", x.gang(1, 3, 0, 0), Due.BAD);
        Due.is("30 BAD ahead of another sort", x.gang(0, 0, 0, 6), Due.BAD);
        Due.is("30 another sort", x.gang(0, 0, 0, 0), Due.OTHER_SORT);
        Due.is("30 another sort ahead of outside", x.gang(0, 2, -5, 1), Due.OTHER_SORT);
        Due.is("30 missing", x.gang(1, 0, 0, 0), Due.NOTHING);
        Due.is("30 missing ahead of outside", x.gang(1, 0, -5, 1), Due.NOTHING);
        int[] outside = {-1, -3, 3, 4, 5, MAX, MAX - 1, MIN};
        for (int from : outside) {
            Due.is("30 from " + from, x.gang(0, 1, from, 1), Due.OUTSIDE);
        }
        Due.is("30 none came", x.count(0), 0);
        Due.is("30 one, then outside", x.gang(0, 1, 0, 2), Due.OUTSIDE);
        Due.is("30 one came", x.count(0), 1);
    }

    private static void promise31Taken() {
        // Which KINDS one of each KIND can be taken for, as bits.
        int[] takenFor = {0b000001, 0b000011, 0b000101, 0b001011, 0b010101, 0b100001};
        for (int kind = 0; kind < 6; kind++) {
            WhoBuiltSails x = new WhoBuiltSails();
            x.wright(0, 1, 0);
            x.wright(kind, kind + 3, 0);
            for (int k = 0; k < 6; k++) {
                int due = (takenFor[kind] >> k & 1) == 1 ? kind + 3 : Due.OTHER_SORT;
                Due.is("31 KIND " + kind + " taken for " + k, x.taken(1, k), due);
            }
            Due.is("31 k", x.taken(0, -1), Due.BAD);
            Due.is("31 k", x.taken(0, 6), Due.BAD);
            Due.is("31 k ahead of none such", x.taken(2, 6), Due.BAD);
            Due.is("31 none such", x.taken(2, 0), Due.NOTHING);
            Due.is("31 none such", x.taken(-1, 0), Due.NOTHING);
        }
    }
}
