/**
 * The boundary cases that 'Terms' names, section 1: PARTS, SOUND, DAY, SEA, WATER, WRIGHTS and their KINDS, quotients,
 * what one MAKES, MENDS and PUMPS, THE TAPE, TOKENS, what is open, TEXTS, ints that wrap.
 */
public final class TermsTest {
    public static void main(String[] args) {
        partsAreTen();
        madeByNobodyAtFirst();
        soundUpTo99ByBuilding();
        soundUpTo99ByMending();
        dayUpTo999();
        dayPasses999InThoughtAlone();
        dayPasses999WhateverIsThought();
        seaUpTo99();
        waterUpTo100();
        downAt100();
        fiveWrights();
        numbersUpTo9();
        skillsUpTo99();
        halvesAreCut();
        tenthsAreCut();
        brotherMakesHalf();
        knotMakesMoreForEachOther();
        figureheadUnderOrNot();
        carefulMendsBelow50();
        carefulPumpsFrom30();
        brotherPumpsForEachOther();
        whatMakesTellsIsBounded();
        whatMendsTellsIsBounded();
        whatPumpsTellsIsBounded();
        whatAKindMakesOfItIsBounded();
        tapeOf160();
        everyByteBehindAnE();
        everyByteAheadOfAnE();
        everyByteAlone();
        wordsAreAsLongAsCanBe();
        numbersOfFourDigits();
        sixOpenOfEach();
        whatWasOpenEnds();
        sixTexts();
        pumpsHasNoPart();
        intsWrap();
        whatIsNot0IsTrue();
        textsSizeIfItEndsTooEarly();
        Due.ends();
    }

    private static WhoBuiltSails withOne(int kind, int number, int skill) {
        WhoBuiltSails x = new WhoBuiltSails();
        x.wright(kind, number, skill);
        return x;
    }

    // ---- PARTS, DAY, SEA, WATER

    private static void partsAreTen() {
        WhoBuiltSails x = withOne(0, 0, 30);
        for (int part = 0; part < 10; part++) {
            Due.is("builds " + part, x.builds(0, part), 30);
        }
        Due.is("all ten", x.told(0, 8), 1023);
        Due.is("all ten", x.count(1), 10);
        Due.is("not -1", x.builds(0, -1), Due.BAD);
        Due.is("not 10", x.builds(0, 10), Due.BAD);
    }

    private static void madeByNobodyAtFirst() {
        WhoBuiltSails x = withOne(0, 0, 30);
        Due.is("none", x.told(0, 8), 0);
        Due.is("nobody", x.told(0, 10), Due.NONE);
        Due.is("nobody", x.told(9, 10), Due.NONE);
        Due.is("0 SOUND", x.told(9, 3), 0);
    }

    private static void soundUpTo99ByBuilding() {
        int[] skills = {89, 90, 91, 99};
        int[] dues = {98, 99, 99, 99};
        for (int i = 0; i < 4; i++) {
            WhoBuiltSails x = withOne(1, 9, skills[i]);
            Due.is("9 more than " + skills[i], x.builds(0, 0), dues[i]);
            Due.is("so SOUND", x.told(0, 3), dues[i]);
        }
        Due.is("0", withOne(0, 0, 0).builds(0, 0), 0);
        Due.is("1", withOne(0, 0, 1).builds(0, 0), 1);
    }

    private static void soundUpTo99ByMending() {
        int[] sounds = {0, 93, 94, 95, 98, 99};
        int[] dues = {5, 98, 99, 99, 99, 99};
        for (int i = 0; i < sounds.length; i++) {
            WhoBuiltSails x = Due.under("makes 0;mends 5;pumps 0;");
            x.wright(0, 0, 0);
            x.builds(0, 9);
            x.bound();
            x.set(3, 9, sounds[i]);
            Due.is(sounds[i] + " mended, in thought", x.run(1, 19), dues[i]);
            x.day();
            Due.is(sounds[i] + " mended, truly", x.told(9, 3), dues[i]);
        }
    }

    private static void dayUpTo999() {
        WhoBuiltSails x = new WhoBuiltSails();
        x.set(1, 0, 0);
        Due.is("DAY 0 at first", x.told(0, 0), 0);
        Due.is("998", x.set(0, 0, 998), 0);
        Due.is("to 999", x.day(), 0);
        Due.is("999", x.told(0, 0), 999);
        Due.is("not to 1000", x.day(), Due.STATE);
        Due.is("999 still", x.told(0, 0), 999);
    }

    /** 15 come in a DAY; on DAY 1000 all is PUMPED. */
    private static WhoBuiltSails pumpingOnDay1000() {
        WhoBuiltSails x = Due.under("makes 0;mends 0;pumps (day=1000)*99;");
        x.wright(0, 0, 0);
        x.builds(0, 0);
        x.bound();
        x.set(0, 0, 999);
        return x;
    }

    private static void dayPasses999InThoughtAlone() {
        WhoBuiltSails x = pumpingOnDay1000();
        int[] dues = {0, 15, 0, 15, 30, 45, 60, 75, 90, 100};
        for (int n = 0; n < dues.length; n++) {
            Due.is("behind " + n, x.run(n, 0), dues[n]);
        }
        Due.is("truly 999", x.told(0, 0), 999);
        Due.is("truly none passes", x.day(), Due.STATE);
    }

    private static void dayPasses999WhateverIsThought() {
        WhoBuiltSails x = pumpingOnDay1000();
        x.set(2, 0, 60);
        // 75, 0 on DAY 1000, 15, 30, 45, 60, 75, 90, DOWN.
        Due.is("down", x.down(), 9);
        // 19 may come in twice: by SEA 26 they leak 195; by 27 it is 200.
        Due.is("stands", x.stands(3), 26);
        Due.is("go", x.go(3, 0), 1);
        Due.is("yard", x.yard(3, 1), 15);
        Due.is("film", x.film(0, 3), 3);
        Due.row(x, 1, 0, 75, 0, 15);
        Due.is("tells", x.tells(1, 0, 0), Due.NONE);
        Due.is("tells, the film", x.tells(0, 0, 0), Due.NONE);
        Due.is("tells of all SKILLS", x.tells(1, 0, 3), 100);
        x.set(2, 0, 0);
        for (int seed = 0; seed < 5; seed++) {
            int z = (seed * 1103515245 + 12345) * 1103515245 + 12345;
            z = z * 1103515245 + 12345;
            int sea = (z >>> 9) % 100;
            Due.is("drawn, the third DAY's alone", x.drawn(seed, 3), firstTwoFit(seed) ? (5 * sea + sea / 2 * 5) / 10 : 100);
        }
    }

    /** Whether the first two DAYS of a drawn voyage leave room, nobody PUMPING ahead of the second one's end. */
    private static boolean firstTwoFit(int seed) {
        int z = seed * 1103515245 + 12345;
        int first = (z >>> 9) % 100;
        z = z * 1103515245 + 12345;
        int second = (z >>> 9) % 100;
        return (5 * first + first / 2 * 5) / 10 + (5 * second + second / 2 * 5) / 10 < 100;
    }

    private static void seaUpTo99() {
        WhoBuiltSails x = new WhoBuiltSails();
        x.set(1, 0, 99);
        Due.is("UNDER, all of it", x.told(0, 11), 99);
        Due.is("half of it, cut", x.told(1, 11), 49);
        x.set(3, 0, 98);
        x.set(3, 1, 98);
        x.set(3, 2, 99);
        x.set(3, 3, 97);
        Due.is("1", x.told(0, 11), 1);
        Due.is("half of 1", x.told(1, 11), 0);
        Due.is("none", x.told(2, 11), 0);
        Due.is("half of 2", x.told(3, 11), 1);
        x.set(1, 0, 0);
        for (int part = 0; part < 10; part++) {
            Due.is("SEA 0", x.told(part, 11), 0);
        }
        Due.is("SEA 0, all together", x.run(0, 2), 0);
    }

    private static void waterUpTo100() {
        int[] waters = {0, 84, 85, 86, 99};
        int[] dues = {15, 99, 100, 100, 100};
        for (int i = 0; i < waters.length; i++) {
            WhoBuiltSails x = new WhoBuiltSails();
            x.set(2, 0, waters[i]);
            Due.is("15 more than " + waters[i], x.run(1, 0), dues[i]);
            Due.is("15 more than " + waters[i], x.day(), dues[i]);
            Due.is("told", x.told(0, 2), dues[i]);
        }
        int[] pumped = {2, 3, 4, 9};
        int[] left = {0, 0, 1, 6};
        for (int i = 0; i < pumped.length; i++) {
            WhoBuiltSails x = withOne(0, 0, 0);
            x.builds(0, 0);
            x.bound();
            x.set(1, 0, 0);
            x.set(2, 0, pumped[i]);
            Due.is("3 less than " + pumped[i], x.day(), left[i]);
        }
    }

    private static void downAt100() {
        WhoBuiltSails x = new WhoBuiltSails();
        x.set(1, 0, 0);
        x.set(2, 0, 99);
        Due.is("99: not DOWN", x.down(), Due.NONE);
        Due.is("99: home", x.home(), 0);
        Due.is("99: a DAY", x.day(), 99);
        x.set(2, 0, 100);
        Due.is("100: DOWN", x.down(), 0);
        Due.is("100: home", x.home(), Due.STATE);
        Due.is("100: a DAY", x.day(), Due.STATE);
        Due.is("100: in thought", x.run(40, 0), 100);
    }

    // ---- WRIGHTS

    private static void fiveWrights() {
        WhoBuiltSails x = new WhoBuiltSails();
        for (int one = 0; one < 5; one++) {
            Due.is("none such yet", x.told(one, 6), Due.NONE_SUCH);
            Due.is("numbered from 0", x.wright(one + 1, 0, 0), one);
            Due.is("KIND", x.told(one, 6), one + 1);
            Due.is("ASHORE", x.told(one, 7), 0);
        }
        Due.is("no sixth", x.wright(0, 0, 0), Due.FULL);
        Due.is("no sixth", x.told(5, 6), Due.NONE_SUCH);
        for (int one = 0; one < 5; one++) {
            x.builds(one, one);
        }
        Due.is("all five", x.bound(), 31);
        Due.is("all five", x.home(), 31);
    }

    private static void numbersUpTo9() {
        for (int number = 0; number < 10; number++) {
            WhoBuiltSails x = withOne(5, number, 0);
            Due.is("NUMBER", x.told(0, 4), number);
            Due.is("PUMPS NUMBER", x.told(0, 9), number);
        }
        Due.is("not 10", new WhoBuiltSails().wright(5, 10, 0), Due.BAD);
        Due.is("not -1", new WhoBuiltSails().wright(5, -1, 0), Due.BAD);
    }

    private static void skillsUpTo99() {
        for (int skill : new int[] {0, 1, 98, 99}) {
            WhoBuiltSails x = withOne(0, 0, skill);
            Due.is("SKILL", x.told(0, 5), skill);
            Due.is("MAKES it", x.asks(0, 9, 0), skill);
        }
        Due.is("not 100", new WhoBuiltSails().wright(0, 0, 100), Due.BAD);
        Due.is("not -1", new WhoBuiltSails().wright(0, 0, -1), Due.BAD);
    }

    private static void halvesAreCut() {
        int[] halves = {0, 0, 1, 1, 2, 2};
        for (int v = 0; v < halves.length; v++) {
            Due.is("a BROTHER's half of " + v, withOne(2, 0, v).asks(0, 0, 0), halves[v]);
            WhoBuiltSails x = Due.under("makes 0;mends 0;pumps skill;");
            x.wright(1, 9, v);
            x.wright(3, 9, v);
            Due.is("a CAULKER's half of " + v, x.told(0, 9), halves[v]);
            Due.is("a KNOT's half of " + v, x.told(1, 9), halves[v]);
            x.set(1, 0, v);
            Due.is("a leak's half of " + v, x.told(1, 11), halves[v]);
        }
    }

    private static void tenthsAreCut() {
        int[] seas = {9, 10, 11, 19, 20, 21, 29};
        int[] tenths = {0, 1, 1, 1, 2, 2, 2};
        for (int i = 0; i < seas.length; i++) {
            WhoBuiltSails x = new WhoBuiltSails();
            for (int part = 1; part < 10; part++) {
                x.set(3, part, 99);
            }
            x.set(1, 0, seas[i]);
            Due.is("a leak", x.run(0, 2), seas[i]);
            Due.is("a tenth of " + seas[i], x.day(), tenths[i]);
        }
    }

    // ---- what one MAKES, MENDS, PUMPS

    private static void brotherMakesHalf() {
        WhoBuiltSails x = withOne(2, 0, 50);
        x.wright(4, 0, 50);
        Due.is("no PART at all", x.asks(0, 3, 0), 25);
        Due.is("CAREFUL, no PART at all", x.asks(1, 3, 0), 35);
        Due.is("builds half", x.builds(0, 3), 25);
        Due.is("no other one", x.asks(0, 3, 0), 25);
        Due.is("builds half again", x.builds(0, 3), 25);
        Due.is("one other one", x.asks(0, 4, 0), 50);
        Due.is("another's PART is none of hers", x.asks(1, 3, 0), 35);
        x.builds(1, 3);
        Due.is("hers no more", x.asks(0, 4, 0), 25);
        Due.is("CAREFUL, one other one", x.asks(1, 4, 0), 60);
    }

    private static void knotMakesMoreForEachOther() {
        WhoBuiltSails x = withOne(3, 4, 50);
        for (int part = 0; part < 10; part++) {
            int due = 50 + (part % 2 == 0 ? 4 : 0) + part;
            Due.is("so many others: " + part, x.asks(0, part, 0), due);
            Due.is("builds", x.builds(0, part), due);
        }
        Due.is("9 others of ten", x.asks(0, 0, 0), 50 + 4 + 9);
        Due.is("9 others of ten", x.asks(0, 9, 0), 50 + 9);
    }

    private static void figureheadUnderOrNot() {
        WhoBuiltSails x = withOne(5, 9, 50);
        for (int part = 0; part < 10; part++) {
            Due.is("FIGUREHEAD makes " + part, x.asks(0, part, 0), part % 2 == 0 ? 0 : 99);
            Due.is("FIGUREHEAD mends " + part, x.asks(0, part, 1), 0);
        }
    }

    private static void carefulMendsBelow50() {
        WhoBuiltSails x = Due.under("makes 0;mends 7;pumps 0;");
        x.wright(4, 0, 0);
        int[] sounds = {0, 49, 50, 51, 99};
        int[] dues = {7, 7, 0, 0, 0};
        for (int i = 0; i < sounds.length; i++) {
            x.set(3, 5, sounds[i]);
            Due.is("CAREFUL mends " + sounds[i], x.asks(0, 5, 1), dues[i]);
        }
        x.set(3, 5, 99);
        x.set(3, 6, 49);
        Due.is("of it, not of another one", x.asks(0, 6, 1), 7);
        x.builds(0, 6);
        x.set(3, 6, 49);
        x.bound();
        Due.is("49 a DAY", x.run(1, 16), 56);
        Due.is("then no more", x.run(2, 16), 56);
    }

    private static void carefulPumpsFrom30() {
        WhoBuiltSails x = Due.under("makes 0;mends 0;pumps 7;");
        x.wright(4, 0, 0);
        int[] waters = {0, 29, 30, 31, 100};
        int[] dues = {0, 0, 7, 7, 7};
        for (int i = 0; i < waters.length; i++) {
            x.set(2, 0, waters[i]);
            Due.is("CAREFUL pumps at " + waters[i], x.told(0, 9), dues[i]);
        }
        x.builds(0, 0);
        x.bound();
        x.set(1, 0, 0);
        x.set(2, 0, 37);
        Due.is("37 less 7", x.run(1, 0), 30);
        Due.is("30 less 7", x.run(2, 0), 23);
        Due.is("23 stay", x.run(3, 0), 23);
    }

    private static void brotherPumpsForEachOther() {
        WhoBuiltSails x = Due.under("makes 0;mends 0;pumps 7;");
        for (int one = 0; one < 5; one++) {
            x.wright(2, 0, 0);
        }
        x.set(2, 0, 60);
        for (int aboard = 0; aboard <= 5; aboard++) {
            for (int one = 0; one < 5; one++) {
                int others = one < aboard ? aboard - 1 : aboard;
                Due.is(aboard + " ABOARD, told of " + one, x.told(one, 9), 7 + others);
            }
            x.builds(Math.min(aboard, 4), 0);
            x.bound();
        }
        x.set(2, 0, 99);
        x.day();
        Due.is("LOST ones are no others ABOARD", x.told(0, 9), 7);
    }

    // ---- the bound, at both places

    /** What makes, mends and pumps tell of v, and what the bound makes of it. */
    private static final int[] TOLD = {-9999, -100, -2, -1, 0, 1, 98, 99, 100, 101, 9999};
    private static final int[] BOUND = {0, 0, 0, 0, 0, 1, 98, 99, 99, 99, 99};

    private static void whatMakesTellsIsBounded() {
        for (int i = 0; i < TOLD.length; i++) {
            WhoBuiltSails x = Due.under("makes " + TOLD[i] + ";mends 0;pumps 0;");
            x.wright(0, 0, 0);
            x.wright(2, 0, 0);
            x.wright(4, 0, 0);
            Due.is("makes " + TOLD[i], x.asks(0, 0, 0), BOUND[i]);
            Due.is("half of it", x.asks(1, 0, 0), BOUND[i] / 2);
            Due.is("half of it and 10", x.asks(2, 0, 0), BOUND[i] / 2 + 10);
            Due.is("builds it", x.builds(0, 0), BOUND[i]);
        }
    }

    private static void whatMendsTellsIsBounded() {
        for (int i = 0; i < TOLD.length; i++) {
            WhoBuiltSails x = Due.under("makes 0;mends " + TOLD[i] + ";pumps 0;");
            x.wright(0, 0, 0);
            x.wright(3, 0, 0);
            Due.is("mends " + TOLD[i], x.asks(0, 1, 1), BOUND[i]);
            Due.is("1 more than it", x.asks(1, 1, 1), Math.min(99, BOUND[i] + 1));
            Due.is("1 more than twice it", x.asks(1, 0, 1), Math.min(99, 2 * BOUND[i] + 1));
        }
    }

    private static void whatPumpsTellsIsBounded() {
        for (int i = 0; i < TOLD.length; i++) {
            WhoBuiltSails x = Due.under("makes 0;mends 0;pumps " + TOLD[i] + ";");
            x.wright(0, 0, 0);
            x.wright(1, 0, 0);
            x.wright(2, 0, 0);
            x.builds(0, 0);
            x.bound();
            Due.is("pumps " + TOLD[i], x.told(0, 9), BOUND[i]);
            Due.is("half of it", x.told(1, 9), BOUND[i] / 2);
            Due.is("1 more than it", x.told(2, 9), Math.min(99, BOUND[i] + 1));
        }
    }

    private static void whatAKindMakesOfItIsBounded() {
        WhoBuiltSails x = Due.under("makes skill;mends skill;pumps skill;");
        x.wright(1, 9, 0);
        x.wright(3, 9, 0);
        x.wright(4, 0, 0);
        x.wright(2, 0, 0);
        x.builds(2, 9);
        x.builds(1, 8);
        x.bound();
        x.set(2, 0, 30);
        asksAt(x, 0, 89, 0, 0, 98);
        asksAt(x, 0, 90, 0, 0, 99);
        asksAt(x, 0, 91, 0, 0, 99);
        asksAt(x, 0, 49, 0, 1, 98);
        asksAt(x, 0, 50, 0, 1, 99);
        asksAt(x, 1, 97, 1, 0, 98);
        asksAt(x, 1, 98, 1, 0, 99);
        asksAt(x, 1, 99, 1, 0, 99);
        asksAt(x, 1, 88, 0, 0, 98);
        asksAt(x, 1, 89, 0, 0, 99);
        asksAt(x, 1, 90, 0, 0, 99);
        asksAt(x, 1, 48, 0, 1, 97);
        asksAt(x, 1, 49, 0, 1, 99);
        asksAt(x, 1, 50, 0, 1, 99);
        asksAt(x, 2, 88, 1, 0, 98);
        asksAt(x, 2, 89, 1, 0, 99);
        asksAt(x, 2, 90, 1, 0, 99);
        for (int skill = 95; skill <= 99; skill++) {
            x.set(5, 2, skill);
            x.set(5, 3, skill);
            Due.is("CAREFUL pumps 1 more than " + skill, x.told(2, 9), Math.min(99, skill + 1));
            Due.is("BROTHER pumps 2 more than " + skill, x.told(3, 9), Math.min(99, skill + 2));
        }
    }

    private static void asksAt(WhoBuiltSails x, int one, int skill, int part, int what, int due) {
        x.set(5, one, skill);
        Due.is("of SKILL " + skill + " asks(" + one + ", " + part + ", " + what + ")", x.asks(one, part, what), due);
    }

    // ---- THE TAPE and TOKENS

    private static void tapeOf160() {
        for (int blanks = 136; blanks <= 138; blanks++) {
            WhoBuiltSails x = new WhoBuiltSails();
            String bytes = "makes 1;mends 1;pumps" + " ".repeat(blanks) + "7;";
            for (int i = 1; i <= bytes.length(); i++) {
                Due.is("feed", x.feed(bytes.charAt(i - 1)), i <= 160 ? i : Due.FULL);
            }
            Due.is("on it", x.count(4), Math.min(160, bytes.length()));
            // Of 161 bytes the last one, ; is not on it.
            Due.is("a TEXT of " + bytes.length(), x.text(), bytes.length() <= 160 ? 1 : -260);
        }
    }

    private static void byteAt(String ahead, int b, String behind, int due) {
        Due.is("text of " + ahead + " byte " + b + " " + behind,
            Due.text(new WhoBuiltSails(), ahead + (char) b + behind), due);
    }

    private static void everyByteBehindAnE() {
        for (int b = 0; b < 256; b++) {
            int due = -107;
            if (b >= '0' && b <= '9' || b == 32 || b == 10) {
                due = 1;
            } else if ("+-*<=;".indexOf(b) >= 0) {
                due = -108;
            }
            byteAt("makes 1", b, ";mends 1;pumps 1;", due);
        }
    }

    private static void everyByteAheadOfAnE() {
        for (int b = 0; b < 256; b++) {
            int due = -106;
            if (b >= '0' && b <= '9' || b == 32 || b == 10 || b == '-') {
                due = 1;
            } else if (b == '(') {
                due = -108;
            }
            byteAt("makes ", b, "1;mends 1;pumps 1;", due);
        }
    }

    private static void everyByteAlone() {
        for (int b = 0; b < 256; b++) {
            byteAt("", b, "", b == 32 || b == 10 ? -101 : -100);
            byteAt("makes 1;mends 1;pumps 1;", b, "", b == 32 || b == 10 ? 1 : -124);
        }
    }

    private static void wordsAreAsLongAsCanBe() {
        String[] names = {"skill", "sound", "number", "day", "water", "part"};
        for (String name : names) {
            Due.is(name, Due.text(new WhoBuiltSails(), "makes " + name + ";mends 1;pumps 1;"), 1);
            int size = name.length();
            for (String word : new String[] {name + "s", "a" + name, name.substring(0, size - 1), name.substring(1),
                    name + name, name.toUpperCase(), "z", "a"}) {
                Due.is(word, Due.text(new WhoBuiltSails(), "makes " + word + ";mends 1;pumps 1;"), -106);
            }
            Due.is(name + "2", Due.text(new WhoBuiltSails(), "makes " + name + "2;mends 1;pumps 1;"), -106 - size);
        }
        String[] keys = {"makes", "mends", "pumps"};
        String[] texts = {"%s 1;mends 1;pumps 1;", "makes 1;%s 1;pumps 1;", "makes 1;mends 1;%s 1;"};
        for (int i = 0; i < 3; i++) {
            for (int j = 0; j < 3; j++) {
                Due.is(keys[j] + " at " + i, Due.text(new WhoBuiltSails(), texts[i].replace("%s", keys[j])),
                    i == j ? 1 : -100 - 8 * i);
            }
            for (String word : new String[] {keys[i] + "s", keys[i].substring(0, 4), "x" + keys[i], "MAKES"}) {
                Due.is(word, Due.text(new WhoBuiltSails(), texts[i].replace("%s", word)), -100 - 8 * i);
            }
        }
        for (String key : new String[] {"or", "and"}) {
            Due.is(key, Due.text(new WhoBuiltSails(), "makes 1 " + key + " 1;mends 1;pumps 1;"), 1);
            Due.is(key + "s", Due.text(new WhoBuiltSails(), "makes 1 " + key + "s 1;mends 1;pumps 1;"), -108);
            Due.is(key + "not", Due.text(new WhoBuiltSails(), "makes 1 " + key + "not 1;mends 1;pumps 1;"), -108);
        }
        // Whatever stands ahead of it, what is no WORD of theirs is not taken for it.
        for (String ahead : new String[] {"-", "--", "(", "((", "not ", "not not ", "1+", "1-", "1*", "1<", "1=", "1 or ",
                "1 and ", "1 ", "skill ", "skill+"}) {
            Due.is(ahead + "z", Due.text(new WhoBuiltSails(), "makes " + ahead + "z 1);mends 1;pumps 1;"),
                -106 - ahead.length());
            Due.is(ahead + "!", Due.text(new WhoBuiltSails(), "makes " + ahead + "! 1);mends 1;pumps 1;"),
                -106 - ahead.length());
            Due.is(ahead + "00000", Due.text(new WhoBuiltSails(), "makes " + ahead + "00000);mends 1;pumps 1;"),
                -106 - ahead.length());
        }
        Due.is("behind ;", Due.text(new WhoBuiltSails(), "makes 1;z mends 1;pumps 1;"), -108);
        Due.is("no", Due.text(new WhoBuiltSails(), "makes no 1;mends 1;pumps 1;"), -106);
        Due.is("nots", Due.text(new WhoBuiltSails(), "makes nots 1;mends 1;pumps 1;"), -106);
    }

    private static void numbersOfFourDigits() {
        value("9", 9);
        value("99", 99);
        value("999-900", 99);
        value("9999-9900", 99);
        value("0000", 0);
        value("0001", 1);
        value("1000-999", 1);
        for (String number : new String[] {"00000", "00001", "10000", "99999", "123456789", "4294967296"}) {
            Due.is(number, Due.text(new WhoBuiltSails(), "makes " + number + ";mends 1;pumps 1;"), -106);
            Due.is("1+" + number, Due.text(new WhoBuiltSails(), "makes 1+" + number + ";mends 1;pumps 1;"), -108);
        }
        Due.is("two NUMBERS", Due.text(new WhoBuiltSails(), "makes 1234 5;mends 1;pumps 1;"), -111);
    }

    private static void open(String e, int due) {
        Due.is("open: " + e, Due.text(new WhoBuiltSails(), "makes " + e + ";mends 1;pumps 1;"), due);
    }

    private static void sixOpenOfEach() {
        for (int n = 0; n <= 5; n++) {
            open("(".repeat(n) + "1" + ")".repeat(n), 1);
            open("not ".repeat(n) + "1", 1);
            open("-".repeat(n) + "1", 1);
            String ahead = "not ".repeat(n) + "-".repeat(5 - n);
            open(ahead + "1", 1);
            open(ahead + "(1)", -106 - ahead.length());
            open(ahead + "-1", -106 - ahead.length());
            ahead = "(".repeat(n) + "not ".repeat(5 - n);
            open(ahead + "1" + ")".repeat(n), 1);
            open(ahead + "(1)" + ")".repeat(n), -106 - ahead.length());
            open(ahead + "-1" + ")".repeat(n), -106 - ahead.length());
            open(ahead + (n == 5 ? "not 1" : "not (1)") + ")".repeat(n), -106 - ahead.length());
        }
        open("((((((1))))))", -111);
        open("not not not not not not 1", -126);
        open("------1", -111);
        open("((((((", -111);
        open("(((((", -111);
        open("(((((1-1)))))", 1);
        open("(((((1--1)))))", -113);
        open("((((1--1))))", 1);
    }

    private static void whatWasOpenEnds() {
        open("(((((1)))))+(((((1)))))", 1);
        // The - behind a ONE is none of these.
        open("-----1------1", 1);
        open("-----1-------1", -118);
        open("-----1 - -----1", 1);
        open("-----1 - ------1", -120);
        open("-----1*-----1", 1);
        open("-----1<-----1", 1);
        open("not not not not not 1 and not not not not not 1", 1);
        open("not not not not not 1 or -----1", 1);
        open("not not not not not 1 + -1", -130);
        open("not not not not not 1 * (1)", -130);
        open("not not not not not 1 = -1", -130);
        open("not not not not 1 = -1", 1);
        open("-(-(-(1)))", -111);
        open("-(-(-1))", 1);
        open("-(-(-1))*-(-(-1))", 1);
        // What was open in one E is not open in the next one.
        Due.is("of three E's", Due.text(new WhoBuiltSails(), "makes(((((1)))));mends-----1;pumps not not not not not 1;"), 1);
    }

    private static void sixTexts() {
        WhoBuiltSails x = new WhoBuiltSails();
        x.wright(0, 0, 0);
        Due.is("TEXT 0 with them", x.count(3), 1);
        for (int i = 1; i <= 5; i++) {
            Due.is("none yet", x.force(i), Due.BAD);
            Due.is("a TEXT", Due.text(x, "makes " + (20 + i) + ";mends 0;pumps 0;"), i);
        }
        Due.is("no seventh", Due.text(x, "makes 26;mends 0;pumps 0;"), Due.FULL);
        for (int i = 5; i >= 1; i--) {
            x.force(i);
            Due.is("each is as it was read", x.asks(0, 0, 0), 20 + i);
        }
        x.force(0);
        Due.is("TEXT 0 as at first", x.asks(0, 0, 0), 0);
        Due.is("TEXT 0 as at first", x.asks(0, 0, 1), 1);
        Due.is("TEXT 0 as at first", x.told(0, 9), 3);
    }

    private static void pumpsHasNoPart() {
        WhoBuiltSails x = Due.under("makes part;mends part+sound;pumps part+sound+1;");
        x.wright(0, 0, 0);
        for (int part = 0; part < 10; part++) {
            x.set(3, part, 50 + part);
            Due.is("part of makes", x.asks(0, part, 0), part);
            Due.is("part and sound of mends", x.asks(0, part, 1), 50 + 2 * part);
        }
        x.builds(0, 9);
        x.bound();
        Due.is("neither of pumps", x.told(0, 9), 1);
        x.set(1, 0, 0);
        x.set(2, 0, 60);
        Due.is("nor in a DAY", x.run(2, 0), 58);
    }

    // ---- what an E comes to

    private static void value(String e, int due) {
        WhoBuiltSails x = Due.under("makes " + e + ";mends 0;pumps 0;");
        x.wright(0, 3, 50);
        Due.is("value of " + e, x.asks(0, 7, 0), due);
    }

    private static void intsWrap() {
        // The greatest int: 21 * 9999 * 9999 is 47903626 less.
        String most = "9999*9999*21+9999*4790+8416";
        value("((" + most + ")-9999*9999*21-9999*4790-8400)", 16);
        value("7*(0<" + most + ")", 7);
        value("7*(" + most + "+1<0)", 7);
        value("7*(" + most + "+1-1<0)", 0);
        value("7*(-(" + most + ")-1<0)", 7);
        value("7*(0<-(" + most + ")-2)", 7);
        value("7*(-(" + most + "+1)<0)", 7);
        value("7*(-(" + most + ")-1<" + most + ")", 7);
        value("7*(" + most + "<-(" + most + ")-1)", 0);
        value("(" + most + ")*2+9", 7);
        value("(" + most + "+1)*2+9", 9);
        value("(" + most + ")*(" + most + ")", 1);
        value("(" + most + "+1=-(" + most + ")-1)", 1);
        value("not (" + most + "+1)", 0);
        value("(" + most + "+1) and 1", 1);
        value("0 or (" + most + "+1)", 1);
        value("(" + most + "+1)*2 or 0", 0);
    }

    private static void whatIsNot0IsTrue() {
        for (String e : new String[] {"1", "2", "99", "9999", "-1", "-9999", "256", "skill"}) {
            value("not " + e, 0);
            value("not not " + e, 1);
            value(e + " and 5", 1);
            value("5 and " + e, 1);
            value("0 or " + e, 1);
            value(e + " or 0", 1);
        }
        for (String e : new String[] {"0", "-0", "1-1", "skill-50"}) {
            value("not " + e, 1);
            value("not not " + e, 0);
            value(e + " and 5", 0);
            value("5 and " + e, 0);
            value("0 or " + e, 0);
            value(e + " or 5", 1);
        }
        value("3<4", 1);
        value("4<4", 0);
        value("5<4", 0);
        value("3=4", 0);
        value("4=4", 1);
        value("5=4", 0);
        value("-1<0", 1);
        value("-1=1", 0);
        // What isn't so is just 0, and what is so just 1.
        for (String e : new String[] {"0 or 0", "0 and 0", "0 and 9", "9 and 0", "not 9", "4<4", "3=4"}) {
            value("(" + e + ")*9+5", 5);
        }
        for (String e : new String[] {"9 or 9", "0 or 9", "9 or 0", "9 and 9", "not 0", "3<4", "4=4"}) {
            value("(" + e + ")*9+5", 14);
        }
    }

    /** A whole TEXT, cut behind each of its bytes; none of the TOKENS that are cut can stand there but NUMBERS. */
    private static void textsSizeIfItEndsTooEarly() {
        String text = "makes 1 + skill*(2<3);mends not 45;pumps 678;";
        for (int size = 0; size < text.length(); size++) {
            String cut = text.substring(0, size);
            String word = cut.replaceAll(".*[^a-z]", "");
            boolean isWhole = word.isEmpty() || " makes mends pumps skill not ".contains(" " + word + " ");
            Due.is("text of " + cut, Due.text(new WhoBuiltSails(), cut), -100 - size + (isWhole ? 0 : word.length()));
            Due.is("text of " + cut + " and blanks", Due.text(new WhoBuiltSails(), cut + "\n "),
                -100 - size + (isWhole ? -2 : word.length()));
        }
        Due.is("the whole", Due.text(new WhoBuiltSails(), text), 1);
    }
}
