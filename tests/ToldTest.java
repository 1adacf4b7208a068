/** Promises 20 to 26: tells, film, drawn, chance, image, back, count. */
public final class ToldTest {
    public static void main(String[] args) {
        promise20Tells();
        promise20TellsOfEach();
        promise20AgainstSets();
        promise20Refuses();
        promise21Film();
        promise21Refuses();
        promise22Drawn();
        promise23Chance();
        promise24And25Image();
        promise25NewOnes();
        promise25BackRefuses();
        promise26Count();
        Due.ends();
    }

    /** 15 come in a DAY and nobody PUMPS. */
    private static void promise20Tells() {
        WhoBuiltSails x = new WhoBuiltSails();
        x.wright(0, 0, 0);
        Due.row(x, 0, 0, 15, 30, 45);
        Due.is("20 NONE", x.tells(0, 0, 0), Due.NONE);
        Due.row(x, 0, 0, 15, 30, 46);
        Due.is("20 the last", x.tells(0, 0, 0), 2);
        Due.row(x, 0, 1, 15, 31, 45);
        Due.is("20 the one between", x.tells(0, 0, 0), 1);
        Due.row(x, 0, 2, 0, 30, 45);
        Due.is("20 the first", x.tells(0, 0, 0), 0);
        Due.row(x, 0, 1, 256 + 15);
        Due.is("20 shorts aren't bytes", x.tells(0, 0, 0), 0);
        Due.row(x, 0, 0, 256 + 15);
        Due.is("20 bytes are", x.tells(0, 0, 0), Due.NONE);
        Due.row(x, 0, 1, 15, 30, 45, 60, 75, 90, 100, 100, 100, 100, 100, 100, 100, 100, 100, 100, 100, 100, 100, 100);
        Due.is("20 twenty", x.tells(0, 0, 0), Due.NONE);
        x.cell(0, 19, 99);
        Due.is("20 the twentieth", x.tells(0, 0, 0), 19);
        Due.is("20 truly no DAY passed", x.told(0, 0), 0);
    }

    /** One PUMPS as her KIND, NUMBER, SKILL and a TEXT have it. */
    private static void promise20TellsOfEach() {
        WhoBuiltSails x = new WhoBuiltSails();
        Due.is("20 text", Due.text(x, "makes 0;mends 0;pumps skill;"), 1);
        Due.is("20 text", Due.text(x, "makes 0;mends 0;pumps number*2;"), 2);
        Due.is("20 text", Due.text(x, "makes 0;mends 0;pumps 8;"), 3);
        x.force(1);
        x.wright(0, 4, 8);
        x.builds(0, 0);
        x.bound();
        x.set(2, 0, 50);
        Due.row(x, 1, 0, 57, 64);
        Due.is("20 so", x.tells(1, 0, 0), Due.NONE);
        // WRIGHT 8, BROTHER and CAREFUL (WATER being 30) as many; CAULKER, KNOT and FIGUREHEAD 4.
        Due.is("20 KINDS", x.tells(1, 0, 1), 1 | 1 << 2 | 1 << 4);
        Due.is("20 NUMBERS don't matter", x.tells(1, 0, 2), 1023);
        Due.is("20 SKILLS", x.tells(1, 0, 3), 1);
        Due.is("20 the least SKILL", x.tells(1, 0, 4), 8);
        // By SEA 21 they leak 155, which is 15 a DAY, too.
        Due.is("20 SEAS", x.tells(1, 0, 5), 2);
        Due.is("20 the least SEA", x.tells(1, 0, 6), 20);
        Due.is("20 TEXTS", x.tells(1, 0, 7), 1 << 1 | 1 << 2 | 1 << 3);
        Due.is("20 PARTS: none", x.tells(1, 0, 8), 0);
        x.force(2);
        Due.is("20 NUMBERS", x.tells(1, 0, 2), 1 << 4);
        Due.is("20 SKILLS don't matter", x.tells(1, 0, 3), 100);
        Due.is("20 the least SKILL of all", x.tells(1, 0, 4), 0);
        x.set(4, 0, 5);
        Due.is("20 otherwise", x.tells(1, 0, 0), 0);
        Due.is("20 no SKILL", x.tells(1, 0, 3), 0);
        Due.is("20 NONE", x.tells(1, 0, 4), Due.NONE);
        Due.is("20 no KIND but", x.tells(1, 0, 1), 0);
        // By NUMBER 5 ten a DAY are PUMPED, so that 17 must come in: 170 by SEA 23, 180 by 24.
        Due.is("20 SEAS", x.tells(1, 0, 5), 1);
        Due.is("20 the least SEA", x.tells(1, 0, 6), 23);
        x.force(1);
        x.set(2, 0, 100 - 15 - 1);
        Due.row(x, 1, 0, 0);
        Due.is("20 99 alone PUMPS it dry", x.tells(1, 0, 3), 1);
        Due.is("20 99 is the least", x.tells(1, 0, 4), 99);
        x.set(2, 0, 50);
        x.force(2);
        Due.row(x, 1, 0);
        Due.is("20 nothing told: all KINDS", x.tells(1, 0, 1), 63);
        Due.is("20 nothing told: all TEXTS", x.tells(1, 0, 7), 15);
        x.set(1, 0, 24);
        x.force(3);
        // 18 come in; were an odd one SOUND 16, were an even one 15.
        Due.row(x, 1, 0, 50 + 16 - 8);
        Due.is("20 PARTS that aren't UNDER", x.tells(1, 0, 8), 0x2aa);
        Due.row(x, 1, 0, 50 + 15 - 8);
        Due.is("20 PARTS UNDER", x.tells(1, 0, 8), 0x155);
        Due.is("20 SEA stays", x.told(0, 1), 24);
        Due.is("20 THE RULE stays", x.count(5), 3);
        Due.is("20 SKILL stays", x.told(0, 5), 8);
        Due.is("20 NUMBER stays", x.told(0, 4), 5);
        Due.is("20 KIND stays", x.told(0, 6), 0);
        Due.is("20 SOUND stays", x.told(9, 3), 0);
    }

    private static WhoBuiltSails sailing() {
        WhoBuiltSails x = new WhoBuiltSails();
        Due.text(x, "makes skill+part;mends 1+number;pumps 2+skill*(sound=0)*(water<40)-day;");
        Due.text(x, "makes skill;mends 2;pumps 3;");
        x.wright(3, 1, 12);
        x.wright(4, 2, 33);
        x.wright(2, 3, 3);
        x.builds(0, 0);
        x.builds(0, 4);
        x.builds(1, 1);
        x.builds(1, 2);
        x.builds(2, 6);
        x.bound();
        x.force(1);
        x.set(1, 0, 30);
        x.set(2, 0, 35);
        return x;
    }

    /** As when it is set truly on an object of its own and filmed. */
    private static void promise20AgainstSets() {
        for (int n = 1; n <= 7; n += 2) {
            WhoBuiltSails x = sailing();
            x.film(0, n);
            Due.is("20 a film tells", x.tells(0, 1, 0), Due.NONE);
            int numbers = 0;
            int skills = 0;
            int least = Due.NONE;
            int seas = 0;
            int leastSea = Due.NONE;
            int parts = 0;
            for (int v = 99; v >= 0; v--) {
                if (v < 10) {
                    numbers |= isSo(n, 4, 1, v) ? 1 << v : 0;
                    parts |= isSo(n, 3, v, 99) ? 1 << v : 0;
                }
                if (isSo(n, 5, 1, v)) {
                    skills++;
                    least = v;
                }
                if (isSo(n, 1, 0, v)) {
                    seas++;
                    leastSea = v;
                }
            }
            Due.is("20 NUMBERS of " + n, x.tells(0, 1, 2), numbers);
            Due.is("20 SKILLS of " + n, x.tells(0, 1, 3), skills);
            Due.is("20 the least of " + n, x.tells(0, 1, 4), least);
            Due.is("20 SEAS of " + n, x.tells(0, 1, 5), seas);
            Due.is("20 the least SEA of " + n, x.tells(0, 1, 6), leastSea);
            Due.is("20 PARTS of " + n, x.tells(0, 1, 8), parts);
            int texts = 0;
            for (int text = 0; text < 3; text++) {
                WhoBuiltSails y = sailing();
                y.force(text);
                texts |= isAsFilmed(y, n) ? 1 << text : 0;
            }
            Due.is("20 TEXTS of " + n, x.tells(0, 1, 7), texts);
        }
    }

    private static boolean isSo(int n, int what, int of, int v) {
        WhoBuiltSails y = sailing();
        y.set(what, of, v);
        return isAsFilmed(y, n);
    }

    private static boolean isAsFilmed(WhoBuiltSails y, int n) {
        WhoBuiltSails x = sailing();
        for (int i = 1; i <= n; i++) {
            if (x.run(i, 0) != y.run(i, 0)) {
                return false;
            }
        }
        return true;
    }

    private static void promise20Refuses() {
        WhoBuiltSails x = new WhoBuiltSails();
        x.wright(0, 0, 0);
        Due.is("20 no SHEET", x.tells(-1, 0, 0), Due.BAD);
        Due.is("20 no SHEET", x.tells(4, 0, 0), Due.BAD);
        Due.is("20 none such", x.tells(0, 1, 0), Due.BAD);
        Due.is("20 none such", x.tells(0, -1, 0), Due.BAD);
        Due.is("20 what", x.tells(0, 0, -1), Due.BAD);
        Due.is("20 what", x.tells(0, 0, 9), Due.BAD);
        Due.is("20 missing", x.tells(0, 0, 0), Due.NOTHING);
        x.sheet(0, 0, 21);
        Due.is("20 more than 20", x.tells(0, 0, 0), Due.BAD);
        x.sheet(0, 0, 20);
        Due.is("20 twenty", x.tells(0, 0, 0), 0);
    }

    private static void promise21Film() {
        WhoBuiltSails x = new WhoBuiltSails();
        x.wright(0, 0, 0);
        Due.row(x, 2, 2, 7, 7);
        Due.is("21 film", x.film(2, 20), 20);
        for (int i = 0; i < 20; i++) {
            Due.is("21 none is otherwise", x.tells(2, 0, 0), Due.NONE);
        }
        x.set(2, 0, 1);
        Due.is("21 it stays as it was", x.tells(2, 0, 0), 0);
        x.set(2, 0, 0);
        Due.row(x, 0, 0, 15, 30, 45, 60, 75, 90, 100, 100, 100, 100, 100, 100, 100, 100, 100, 100, 100, 100, 100, 100);
        Due.is("21 bytes", x.copy(0, 0, 2, 0, 20), 20);
        Due.is("21 20 long", x.copy(0, 0, 2, 1, 20), Due.OUTSIDE);
        Due.is("21 of 0 DAYS", x.film(2, 0), 0);
        Due.is("21 has no item", x.cell(2, 0, 0), Due.OUTSIDE);
        Due.is("21 of a missing one", x.film(3, 3), 3);
        Due.is("21 has 3", x.cell(3, 2, 0), 1);
        Due.is("21 has 3", x.cell(3, 3, 0), Due.OUTSIDE);
        Due.is("21 truly no DAY passed", x.told(0, 0), 0);
    }

    private static void promise21Refuses() {
        WhoBuiltSails x = new WhoBuiltSails();
        Due.is("21 no SHEET", x.film(-1, 0), Due.BAD);
        Due.is("21 no SHEET", x.film(4, 0), Due.BAD);
        Due.is("21 n", x.film(0, -1), Due.BAD);
        Due.is("21 n", x.film(0, 21), Due.BAD);
        Due.is("21 missing still", x.cell(0, 0, 0), Due.NOTHING);
    }

    /** Nobody made any, so all leak: half of the ten as rough as the SEA, half as half. */
    private static int drawnOfNew(int seed, int n) {
        int z = seed;
        int water = 0;
        for (int i = 0; i < n && water < 100; i++) {
            z = z * 1103515245 + 12345;
            int sea = (z >>> 9) % 100;
            water = Math.min(100, water + (5 * sea + 5 * (sea / 2)) / 10);
        }
        return water;
    }

    private static void promise22Drawn() {
        WhoBuiltSails x = new WhoBuiltSails();
        // 1103527590 >>> 9 is 2155327.
        Due.is("22 of SEED 1", x.drawn(1, 1), (5 * 27 + 5 * 13) / 10);
        Due.is("22 0 DAYS", x.drawn(1, 0), 0);
        for (int seed : new int[] {0, 1, -1, 77, 123456789, Integer.MIN_VALUE, Integer.MAX_VALUE}) {
            for (int n = 0; n <= 40; n += n < 4 ? 1 : 9) {
                Due.is("22 drawn(" + seed + ", " + n + ")", x.drawn(seed, n), drawnOfNew(seed, n));
            }
        }
        Due.is("22 SEA stays", x.told(0, 1), 20);
        Due.is("22 WATER stays", x.told(0, 2), 0);
        Due.is("22 n", x.drawn(0, 41), Due.BAD);
        Due.is("22 n", x.drawn(0, -1), Due.BAD);
    }

    private static void promise23Chance() {
        WhoBuiltSails x = new WhoBuiltSails();
        for (int part = 0; part < 9; part++) {
            x.set(3, part, 99);
        }
        x.set(2, 0, 80);
        // Only 9 leaks: a half of a SEA, of which a tenth comes in, some 20 in 10 DAYS.
        int many = 0;
        int fewer = 0;
        for (int seed : new int[] {0, 5, -9, Integer.MAX_VALUE - 2}) {
            for (int m = 1; m <= 20; m++) {
                int downs = 0;
                for (int i = 0; i < m; i++) {
                    downs += x.drawn(seed + i, 10) >= 100 ? 1 : 0;
                }
                many += downs;
                fewer += m - downs;
                long above = x.chance(seed, m, 0);
                long below = x.chance(seed, m, 1);
                Due.is("23 of " + m, above * m, downs * below);
                Due.is("23 in lowest terms", gcd(above, below), 1);
            }
        }
        Due.is("23 she was DOWN by many and by many not", many > 100 && fewer > 100);
        x.set(2, 0, 0);
        Due.is("23 none: 0", x.chance(3, 6, 0), 0);
        Due.is("23 none: of 1", x.chance(3, 6, 1), 1);
        x.set(2, 0, 100);
        Due.is("23 all: 1", x.chance(3, 20, 0), 1);
        Due.is("23 all: of 1", x.chance(3, 20, 1), 1);
        Due.is("23 m", x.chance(0, 0, 0), WhoBuiltSails.NO);
        Due.is("23 m", x.chance(0, 21, 0), WhoBuiltSails.NO);
        Due.is("23 m", x.chance(0, -1, 0), WhoBuiltSails.NO);
        Due.is("23 part", x.chance(0, 1, -1), WhoBuiltSails.NO);
        Due.is("23 part", x.chance(0, 1, 2), WhoBuiltSails.NO);
    }

    private static long gcd(long a, long b) {
        return b == 0 ? a : gcd(b, a % b);
    }

    private static void promise24And25Image() {
        WhoBuiltSails x = new WhoBuiltSails();
        Due.is("24 nobody", x.image(), 0);
        Due.text(x, "makes 1;mends 2;pumps 3;");
        x.wright(0, 3, 30);
        x.wright(2, 4, 40);
        x.builds(0, 0);
        x.builds(1, 9);
        x.bound();
        x.home();
        x.builds(0, 1);
        x.set(0, 0, 5);
        x.set(1, 0, 6);
        x.set(2, 0, 7);
        x.force(1);
        Due.is("24 two", x.image(), 2);
        x.wright(5, 5, 50);
        x.builds(2, 0);
        x.builds(2, 3);
        x.bound();
        x.day();
        x.set(0, 0, 50);
        x.set(1, 0, 60);
        x.set(4, 0, 0);
        x.set(5, 1, 0);
        x.set(3, 9, 99);
        x.set(2, 0, 99);
        x.day();
        x.force(0);
        Due.text(x, "makes 4;mends 5;pumps 6;");
        x.feed('m');
        Due.row(x, 1, 0, 3);
        for (int i = 0; i < 2; i++) {
            Due.is("25 two", x.back(), 2);
            Due.is("25 WRIGHTS", x.count(0), 2);
            Due.is("25 gone", x.told(2, 6), Due.NONE_SUCH);
            int[] dues = {5, 6, 7};
            for (int what = 0; what < 3; what++) {
                Due.is("25 of the ship", x.told(0, what), dues[what]);
            }
            int[] makers = {0, 0, -1, -1, -1, -1, -1, -1, -1, 1};
            int[] sounds = {30, 30, 0, 0, 0, 0, 0, 0, 0, 20};
            for (int part = 0; part < 10; part++) {
                Due.is("25 maker of " + part, x.told(part, 10), makers[part]);
                Due.is("25 sound of " + part, x.told(part, 3), sounds[part]);
            }
            Due.is("25 NUMBER", x.told(0, 4), 3);
            Due.is("25 SKILL", x.told(1, 5), 40);
            Due.is("25 KIND", x.told(1, 6), 2);
            Due.is("25 ASHORE", x.told(0, 7), 0);
            Due.is("25 THE RULE", x.count(5), 1);
            Due.is("25 TEXTS stay", x.count(3), 3);
            Due.is("25 THE TAPE stays", x.count(4), 1);
            Due.is("25 SHEETS stay", x.cell(1, 0, 3), 1);
            // The image stays as it was kept, whatever comes then.
            x.wright(1, 1, 1);
            x.builds(2, 9);
            x.set(3, 0, 77);
            x.bound();
            x.day();
            x.force(2);
        }
        Due.is("24 anew", x.image(), 3);
        x.set(2, 0, 1);
        Due.is("25 anew", x.back(), 3);
    }

    /** One who comes where another one was ABOARD, whom the image didn't keep, is ASHORE. */
    private static void promise25NewOnes() {
        WhoBuiltSails x = new WhoBuiltSails();
        x.image();
        x.wright(5, 9, 99);
        x.builds(0, 0);
        x.bound();
        x.back();
        Due.is("25 nobody made it", x.told(0, 10), Due.NONE);
        Due.is("25 comes", x.wright(0, 1, 2), 0);
        Due.is("25 ASHORE", x.told(0, 7), 0);
        Due.is("25 of her own KIND", x.told(0, 6), 0);
        Due.is("25 made nothing", x.told(0, 8), 0);
    }

    private static void promise25BackRefuses() {
        WhoBuiltSails x = new WhoBuiltSails();
        x.wright(0, 3, 30);
        Due.is("25 none", x.back(), Due.STATE);
        Due.is("25 stays", x.count(0), 1);
    }

    private static void promise26Count() {
        WhoBuiltSails x = new WhoBuiltSails();
        x.wright(0, 3, 30);
        x.wright(0, 3, 30);
        x.wright(0, 3, 30);
        x.builds(0, 1);
        x.builds(2, 5);
        x.builds(2, 5);
        x.builds(2, 6);
        x.builds(2, 9);
        x.bound();
        Due.text(x, "makes 1;mends 2;pumps 3;");
        x.force(1);
        Due.feed(x, "makes");
        int[] dues = {3, 4, 2, 2, 5, 1};
        for (int what = 0; what < 6; what++) {
            Due.is("26 count(" + what + ")", x.count(what), dues[what]);
        }
        Due.is("26 BAD", x.count(-1), Due.BAD);
        Due.is("26 BAD", x.count(6), Due.BAD);
        x.set(2, 0, 99);
        x.day();
        Due.is("26 LOST ones aren't ABOARD", x.count(2), 0);
    }
}
