import java.util.ArrayList;
import java.util.Arrays;
import java.util.List;

/**
 * What is asked, and what is only thought, changes nothing: an object that was asked it and one that wasn't answer
 * alike, whatever they are asked then. Objects share nothing, and the same calls answer the same.
 */
public final class ThoughtTest {
    public static void main(String[] args) {
        whatIsAskedChangesNothing();
        daysInThoughtChangeNothing();
        whatWouldBeBestChangesNothing();
        whatWasToldChangesNothing();
        filmChangesItsSheetAlone();
        imageChangesWhatIsKeptAlone();
        theSameAnswersAgain();
        objectsShareNothing();
        Due.ends();
    }

    private static void quiet(String call, int... a) {
        WhoBuiltSails x = RefusalTest.sailing();
        String told = call + Arrays.toString(a);
        long answer = Calls.ask(x, call, a);
        Due.is(told + " isn't refused", answer != Due.BAD && answer != WhoBuiltSails.NO && answer != Due.NONE_SUCH);
        Due.is(told + ", again", Calls.ask(x, call, a), answer);
        Due.is(told + " changes nothing",
            Twins.everything(x).equals(Twins.everything(RefusalTest.sailing())));
    }

    private static void whatIsAskedChangesNothing() {
        for (int what = 0; what <= 11; what++) {
            for (int of = 0; of < 4; of++) {
                quiet("told", of, what);
            }
        }
        for (int one = 0; one < 4; one++) {
            for (int part = 0; part < 10; part += 3) {
                quiet("asks", one, part, 0);
                quiet("asks", one, part, 1);
            }
            for (int k = 0; k < 6; k++) {
                quiet("taken", one, k);
            }
        }
        for (int what = 0; what < 6; what++) {
            quiet("count", what);
        }
    }

    private static void daysInThoughtChangeNothing() {
        for (int n : new int[] {0, 1, 7, 40}) {
            for (int what : new int[] {0, 1, 2, 10, 11, 19}) {
                quiet("run", n, what);
            }
        }
        quiet("down");
        for (int seed : new int[] {Integer.MIN_VALUE, -1, 0, 1, Integer.MAX_VALUE}) {
            for (int n : new int[] {0, 1, 7, 40}) {
                quiet("drawn", seed, n);
            }
            quiet("chance", seed, 20, 0);
            quiet("chance", seed, 20, 1);
        }
    }

    private static void whatWouldBeBestChangesNothing() {
        for (int n : new int[] {0, 1, 7, 20}) {
            for (int what = 0; what < 2; what++) {
                quiet("yard", n, what);
                quiet("go", n, what);
                quiet("go", 2 * n, what);
            }
            quiet("stands", Math.max(1, 2 * n));
        }
        quiet("worst");
        quiet("mean", 0);
        quiet("mean", 1);
    }

    private static void whatWasToldChangesNothing() {
        for (int one = 0; one < 4; one++) {
            for (int what = 0; what <= 8; what++) {
                quiet("tells", 0, one, what);
                quiet("tells", 1, one, what);
            }
        }
    }

    /** What is filmed is as if its SHEET had been laid out by hand. */
    private static void filmChangesItsSheetAlone() {
        for (int sheet = 0; sheet < 4; sheet++) {
            for (int n : new int[] {0, 1, 3, 20}) {
                WhoBuiltSails x = RefusalTest.sailing();
                WhoBuiltSails y = RefusalTest.sailing();
                Due.is("film", x.film(sheet, n), n);
                y.sheet(sheet, 0, n);
                for (int i = 0; i < n; i++) {
                    y.cell(sheet, i, y.run(i + 1, 0));
                }
                Due.is("film(" + sheet + ", " + n + ") changes its SHEET alone",
                    Twins.everything(x).equals(Twins.everything(y)));
            }
        }
    }

    private static void imageChangesWhatIsKeptAlone() {
        WhoBuiltSails x = RefusalTest.sailing();
        WhoBuiltSails y = RefusalTest.sailing();
        x.image();
        Due.is("image() changes nothing of the ship", shipOf(x).equals(shipOf(y)));
        x.back();
        Due.is("back() by it at once changes nothing", shipOf(x).equals(shipOf(y)));
        y.back();
        Due.is("the image ahead of it was otherwise", !shipOf(x).equals(shipOf(y)));
    }

    private static List<Integer> shipOf(WhoBuiltSails x) {
        List<Integer> ship = new ArrayList<>();
        for (int what = 0; what <= 11; what++) {
            for (int of = 0; of < 10; of++) {
                ship.add(x.told(of, what));
            }
        }
        for (int what = 0; what < 6; what++) {
            ship.add(x.count(what));
        }
        return ship;
    }

    private static void theSameAnswersAgain() {
        List<Long> first = Twins.everything(RefusalTest.sailing());
        for (int i = 0; i < 5; i++) {
            Due.is("the same calls answer the same", Twins.everything(RefusalTest.sailing()).equals(first));
        }
    }

    /** Two that are asked by turns answer as two that are asked one behind the other. */
    private static void objectsShareNothing() {
        WhoBuiltSails x = new WhoBuiltSails();
        WhoBuiltSails y = new WhoBuiltSails();
        String ofX = "makes skill+2;mends 3;pumps 4;";
        String ofY = "makes skill*2;mends 5-4;pumps 6;";
        for (int i = 0; i < Math.max(ofX.length(), ofY.length()); i++) {
            Due.is("THE TAPE of x", x.feed(i < ofX.length() ? ofX.charAt(i) : ' '), i + 1);
            Due.is("THE TAPE of y", y.feed(i < ofY.length() ? ofY.charAt(i) : ' '), i + 1);
        }
        Due.is("TEXT 1 of x", x.text(), 1);
        Due.is("THE TAPE of y stays", y.count(4), ofY.length());
        Due.is("y has no TEXT 1 yet", y.force(1), Due.BAD);
        Due.is("TEXT 1 of y", y.text(), 1);
        x.force(1);
        Due.is("THE RULE of y stays", y.force(1), 0);
        x.wright(0, 1, 10);
        Due.is("y has no WRIGHT yet", y.count(0), 0);
        y.wright(0, 2, 20);
        Due.is("x builds", x.builds(0, 0), 12);
        Due.is("y builds", y.builds(0, 0), 40);
        x.bound();
        Due.is("nobody of y is ABOARD", y.count(2), 0);
        y.image();
        Due.is("x has no image", x.back(), Due.STATE);
        x.sheet(0, 0, 3);
        Due.is("SHEET 0 of y is missing still", y.cell(0, 0, 0), Due.NOTHING);
        x.set(1, 0, 99);
        Due.is("SEA of y stays", y.told(0, 1), 20);
        x.run(5, 0);
        Due.is("x a DAY", x.day(), (4 * 99 + 87 + 5 * 49) / 10 - 4);
        Due.is("y a DAY", y.day(), (4 * 20 + 5 * 10) / 10);
        Due.is("SOUND of x", x.told(0, 3), 15);
        Due.is("SOUND of y", y.told(0, 3), 40);
    }
}
