/** Promises 6 to 8: feed, text, force; what is read, what it comes to, where a FAULT is. */
public final class TextTest {
    public static void main(String[] args) {
        promise6Feed();
        promise7Texts();
        promise7Values();
        promise7Names();
        promise7Tokens();
        promise7Faults();
        promise7Open();
        promise7AheadOfIt();
        promise7AtTheEndOfTheTape();
        promise8Force();
        Due.ends();
    }

    private static void promise6Feed() {
        WhoBuiltSails x = new WhoBuiltSails();
        Due.is("6 below", x.feed(-1), Due.BAD);
        Due.is("6 above", x.feed(256), Due.BAD);
        Due.is("6 nothing came", x.count(4), 0);
        Due.is("6 least", x.feed(0), 1);
        Due.is("6 most", x.feed(255), 2);
        for (int i = 3; i <= 160; i++) {
            Due.is("6 feed", x.feed(32), i);
        }
        Due.is("6 full", x.feed(32), Due.FULL);
        Due.is("6 BAD ahead of FULL", x.feed(256), Due.BAD);
        Due.is("6 160 stay", x.count(4), 160);
        Due.is("6 byte 0 begins none", x.text(), -100);
        Due.is("6 empty", x.count(4), 0);
        Due.is("6 again", x.feed('m'), 1);
    }

    private static void promise7Texts() {
        WhoBuiltSails x = new WhoBuiltSails();
        for (int i = 1; i <= 5; i++) {
            Due.is("7 a text", Due.text(x, "makes " + i + ";mends 1;pumps 1;"), i);
            Due.is("7 the tape is empty", x.count(4), 0);
            Due.is("7 a fault", Due.text(x, "makes 1;x"), i < 5 ? -108 : Due.FULL);
            Due.is("7 the tape then", x.count(4), i < 5 ? 0 : 9);
            Due.is("7 texts", x.count(3), i + 1);
        }
        Due.is("7 full ahead of all", x.text(), Due.FULL);
        Due.is("7 the tape stays", x.count(4), 9);
        Due.is("7 the rule stays", x.count(5), 0);
        WhoBuiltSails y = new WhoBuiltSails();
        Due.is("7 an empty tape", y.text(), -100);
        Due.is("7 160 bytes", Due.text(y, "makes 1;mends 1;pumps 1" + "+0".repeat(67) + "  ;"), 1);
        y.wright(0, 0, 0);
        y.force(1);
        Due.is("7 160 bytes told", y.told(0, 9), 1);
    }

    /** What makes tells of one of SKILL 50, NUMBER 3 and PART 7. */
    private static int makes(String e) {
        WhoBuiltSails x = Due.under("makes " + e + ";mends 0;pumps 0;");
        x.wright(0, 3, 50);
        return x.asks(0, 7, 0);
    }

    private static void value(String e, int due) {
        Due.is("7 value of " + e, makes(e), due);
    }

    private static void promise7Values() {
        value("7", 7);
        value("0099", 99);
        value("100", 99);
        value("9999", 99);
        value("-1", 0);
        value("- - 4", 4);
        value("10-3-2", 5);
        value("10-(3-2)", 9);
        value("2+3*4", 14);
        value("(2+3)*4", 20);
        value("2*3+4*5", 26);
        value("-2*-3", 6);
        value("3--2", 5);
        value("1<2", 1);
        value("2<2", 0);
        value("2=2", 1);
        value("2=3", 0);
        value("-5<3", 1);
        value("1+1<3*1", 1);
        value("(1<2)+(2<3)", 2);
        value("5 and 7", 1);
        value("5 and 0", 0);
        value("1 and 5", 1);
        value("0 and 5", 0);
        value("0 or 0", 0);
        value("0 or 9", 1);
        value("-3 or 0", 1);
        value("not 0", 1);
        value("not 8", 0);
        value("not not 8", 1);
        value("not 3<2", 1);
        value("not 0 + 7", 0);
        value("not 1 = 0", 1);
        value("1 or 1 and 0", 1);
        value("(1 or 1) and 0", 0);
        value("0 and 0 or 1", 1);
        value("not 1 or 1", 1);
        value("not 1 and 0", 0);
        value("1 or 0 or 0 and 0", 1);
        value("1 and 1 and 5", 1);
        value("9999*9999*9999", 0);
        value("9999*9999*43+7", 99);
        value("9999*9999*22", 0);
        value("9999*9999*21", 99);
        value("5*(part<4)", 0);
        value("2*(1+2*(1+2*(1+2*(1+2*(1+2)))))-50", 76);
        value("1or 1and 1<1+1*(1or 1and 1<1+1*(1or 1and 1<1+1*(1or 0and 1<1+1*(1or 1and 1<1+1*(0)))))", 1);
    }

    private static void promise7Names() {
        WhoBuiltSails x = Due.under("makes skill*(part=2)+sound*(part=3)+number*(part=4)+day*(part=5)+water*(part=6)+part*(part=7);"
            + "mends sound+part*10;pumps day+water;");
        x.wright(0, 3, 50);
        x.set(3, 3, 44);
        x.set(0, 0, 17);
        x.set(2, 0, 23);
        Due.is("7 skill", x.asks(0, 2, 0), 50);
        Due.is("7 sound", x.asks(0, 3, 0), 44);
        Due.is("7 number", x.asks(0, 4, 0), 3);
        Due.is("7 day", x.asks(0, 5, 0), 17);
        Due.is("7 water", x.asks(0, 6, 0), 23);
        Due.is("7 part", x.asks(0, 7, 0), 7);
        Due.is("7 mends of sound and part", x.asks(0, 3, 1), 74);
        Due.is("7 pumps of day and water", x.told(0, 9), 40);
        x.set(3, 0, 60);
        WhoBuiltSails y = Due.under("makes 1;mends 1;pumps sound+part+skill+number;");
        y.wright(0, 3, 50);
        y.set(3, 0, 60);
        Due.is("7 pumps has no part, no sound", y.told(0, 9), 53);
        // What is SOUND is told ahead of its being BUILT.
        WhoBuiltSails z = Due.under("makes sound+5;mends 1;pumps 1;");
        z.wright(0, 0, 0);
        Due.is("7 sound ahead", z.builds(0, 0), 5);
        Due.is("7 sound ahead, again", z.builds(0, 0), 10);
    }

    private static void promise7Tokens() {
        WhoBuiltSails x = new WhoBuiltSails();
        Due.is("7 no blanks", Due.text(x, "makes(1)or(2);mends-1;pumps not 1;"), 1);
        Due.is("7 blanks", Due.text(x, "\n  makes\n1 \n;  mends 1;pumps 1;  \n "), 2);
        Due.is("7 a number ahead of a word", Due.text(x, "makes 2or 3and 4;mends 1;pumps 1;"), 3);
        Due.is("7 signs without blanks", Due.text(x, "makes--1<-1;mends 1=1;pumps(((((1)))));"), 4);
    }

    private static void fault(String bytes, int place) {
        Due.is("7 fault of " + bytes, Due.text(new WhoBuiltSails(), bytes), -100 - place);
    }

    private static void promise7Faults() {
        fault("", 0);
        fault("   ", 3);
        fault("\n\n", 2);
        fault("mends 1;", 0);
        fault("makes", 5);
        fault("makes  ", 7);
        fault("makes ;", 6);
        fault("makes 1", 7);
        fault("makes 1 pumps", 8);
        fault("makes 1; pumps 1;", 9);
        fault("makes 1;mends 1;pumps 1", 23);
        fault("makes 1;mends 1;pumps 1; ;", 25);
        fault("makes 1;mends 1;pumps 1; \t", 25);
        fault("makes 1;mends 1;pumps 1;makes 1;", 24);
        fault("makes 1;mends 1;pumps 1;5", 24);
        fault("makes1;", 7);
        fault("makesx 1;", 0);
        fault("makes skil;", 6);
        fault("makes skills;", 6);
        fault("makes skillsound;", 6);
        fault("makes a;", 6);
        fault("makes Skill;", 6);
        fault("makes 1\t;", 7);
        fault("makes 1\r;", 7);
        fault("makes 12345;", 6);
        fault("makes 00000;", 6);
        fault("makes 1+12345;", 8);
        fault("makes 1 2;", 8);
        fault("makes 1 skill;", 8);
        fault("makes 1skill;", 7);
        fault("makes 1 12345;", 8);
        fault("makes 1+;", 8);
        fault("makes 1+*2;", 8);
        fault("makes +1;", 6);
        fault("makes 1<2<3;", 9);
        fault("makes 1=2=3;", 9);
        fault("makes 1<2=3;", 9);
        fault("makes 1 not 2;", 8);
        fault("makes 1+not 2;", 8);
        fault("makes -not 2;", 7);
        fault("makes not;", 9);
        fault("makes 1 or;", 10);
        fault("makes 1 and and 1;", 12);
        fault("makes (1;", 8);
        fault("makes 1);", 7);
        fault("makes ();", 7);
        fault("makes (1", 8);
        fault("makes makes;", 6);
        fault("makes 1 ! 12345 x", 8);
        fault("makes 1, 2;", 7);
        fault("makes 1/2;", 7);
        fault("makes 1>2;", 7);
        fault("makes 1:2;", 7);
        fault("makes {1};", 6);
        fault("makes `1;", 6);
        fault("makes \u00e9;", 6);
    }

    private static void promise7Open() {
        WhoBuiltSails x = new WhoBuiltSails();
        Due.is("7 five brackets", Due.text(x, "makes (((((1)))));mends 1;pumps 1;"), 1);
        Due.is("7 five nots", Due.text(x, "makes not not not not not 1;mends 1;pumps 1;"), 2);
        Due.is("7 five minuses", Due.text(x, "makes -----1;mends 1;pumps 1;"), 3);
        Due.is("7 closed ones", Due.text(x, "makes (1)+(-1)+(-1)+(1)*(-1) and not 1 or not (1);mends---(-1);pumps 1;"), 4);
        Due.is("7 they end", Due.text(x, "makes ---(-1)+----(1)<-----1;mends 1;pumps 1;"), 5);
        fault("makes ((((((1))))));", 11);
        fault("makes not not not not not not 1;", 26);
        fault("makes ------1;", 11);
        fault("makes (((((-1)))));", 11);
        fault("makes (((((not 1)))));", 11);
        fault("makes not not not (-(-1));", 20);
        fault("makes not not not not not 1 < (1);", 30);
        fault("makes not not not not not 1 < -1;", 30);
        fault("makes ---(-1) + -----(1);", 21);
        fault("makes (((((1)))));mends ((((((", 29);
    }

    /** Nothing of what was read ahead is left: neither what was open nor bytes behind the size. */
    private static void promise7AheadOfIt() {
        WhoBuiltSails x = new WhoBuiltSails();
        Due.is("7 six are open", Due.text(x, "makes ((((((1))))));mends 1;pumps 1;"), -111);
        Due.is("7 five are open then", Due.text(x, "makes (((((1)))));mends 1;pumps 1;"), 1);
        Due.is("7 a long NUMBER", Due.text(x, "makes 12345;"), -106);
        Due.is("7 a shorter one", Due.text(x, "makes 123"), -109);
        Due.is("7 a long WORD", Due.text(x, "makes numbers;"), -106);
        Due.is("7 a shorter one", Due.text(x, "makes number"), -112);
        Due.is("7 a text", Due.text(x, "makes 1;mends 1;pumps 1;;"), -124);
        Due.is("7 a byte less", Due.text(x, "makes 1;mends 1;pumps 1;"), 2);
    }

    private static void promise7AtTheEndOfTheTape() {
        String ahead = "makes 1;mends 1;pumps" + " ".repeat(130);
        fault(ahead + "    skill", 160);
        fault(ahead + "    numbe", 155);
        fault(ahead + "   -12345", 155);
        fault(ahead + "     1234", 160);
        fault(ahead + "        (", 160);
        fault(ahead + "         ", 160);
        fault(ahead + "       1 ;;", 160);
        // Each of these makes more steps than it has bytes.
        String minuses = "makes 1;mends 1;pumps 0" + "--1".repeat(44) + "-3 ;";
        Due.is("7 160 bytes", minuses.length(), 159);
        WhoBuiltSails x = Due.under(minuses);
        x.wright(0, 0, 0);
        Due.is("7 44 less 3", x.told(0, 9), 41);
        WhoBuiltSails y = Due.under("makes 1;mends 1;pumps 0" + "+-1+1".repeat(26) + "+7;");
        y.wright(0, 0, 0);
        Due.is("7 26 of -1 and 1, and 7", y.told(0, 9), 7);
    }

    private static void promise8Force() {
        WhoBuiltSails x = new WhoBuiltSails();
        Due.is("8 none such", x.force(1), Due.BAD);
        Due.is("8 below", x.force(-1), Due.BAD);
        Due.is("8 the same", x.force(0), 0);
        Due.is("8 a text", Due.text(x, "makes 7;mends 8;pumps 9;"), 1);
        Due.is("8 a text", Due.text(x, "makes 17;mends 18;pumps 19;"), 2);
        x.wright(0, 0, 5);
        Due.is("8 reading does not force", x.asks(0, 0, 0), 5);
        Due.is("8 was", x.force(2), 0);
        Due.is("8 was", x.force(1), 2);
        Due.is("8 refused", x.force(3), Due.BAD);
        Due.is("8 refused", x.force(6), Due.BAD);
        Due.is("8 is", x.count(5), 1);
        Due.is("8 makes", x.asks(0, 0, 0), 7);
        Due.is("8 mends", x.asks(0, 0, 1), 8);
        Due.is("8 pumps", x.told(0, 9), 9);
        Due.is("8 back", x.force(0), 1);
        Due.is("8 makes by TEXT 0", x.asks(0, 0, 0), 5);
        Due.is("8 mends by TEXT 0", x.asks(0, 0, 1), 1);
        Due.is("8 pumps by TEXT 0", x.told(0, 9), 3);
    }
}
