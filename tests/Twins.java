import java.util.ArrayList;
import java.util.Arrays;
import java.util.List;
import java.util.function.Supplier;

/**
 * Two objects that are made alike: one is asked what is refused, the other one isn't;
 * whatever both are asked then, they must answer alike.
 */
final class Twins {
    /** An object promises nothing beyond its 512th call; what makes the twins takes 200 at most. */
    private static final int CALLS = 300;

    private final WhoBuiltSails x;
    private final List<Long> answers = new ArrayList<>();

    private Twins(WhoBuiltSails x) {
        this.x = x;
    }

    static void refuse(Supplier<WhoBuiltSails> made, long due, String call, int... a) {
        String told = call + Arrays.toString(a);
        WhoBuiltSails one = made.get();
        Due.is(told, Calls.ask(one, call, a), due);
        Due.is(told + " changes nothing", everything(one).equals(everything(made.get())));
    }

    /** All that an object can be asked; it is used up by it. */
    static List<Long> everything(WhoBuiltSails x) {
        Twins of = new Twins(x);
        of.ship();
        of.texts();
        of.ask("back");
        of.ship();
        for (int sheet = 0; sheet < 4; sheet++) {
            of.sheet(sheet);
        }
        Due.is("calls of everything: " + of.answers.size(), of.answers.size() <= CALLS);
        return of.answers;
    }

    private long ask(String call, int... a) {
        long answer = Calls.ask(x, call, a);
        answers.add(answer);
        return answer;
    }

    private void ship() {
        for (int what = 0; what < 3; what++) {
            ask("told", 0, what);
        }
        for (int part = 0; part < 10; part++) {
            ask("told", part, 3);
            ask("told", part, 10);
            ask("told", part, 11);
        }
        for (int one = 0; one < 5; one++) {
            for (int what = 4; what < 10; what++) {
                ask("told", one, what);
            }
        }
        for (int what = 0; what < 6; what++) {
            ask("count", what);
        }
    }

    /** What is on THE TAPE becomes a TEXT, too, so that it can be asked. */
    private void texts() {
        ask("text");
        for (int text = 0; text < 6; text++) {
            ask("force", text);
            ask("asks", 2, 1, 0);
            ask("asks", 2, 1, 1);
            ask("told", 2, 9);
        }
    }

    /** Sort, size (by a copy onto itself, which changes nothing) and the first nine items, as WRIGHTS. */
    private void sheet(int sheet) {
        int sort = -1;
        for (int i = 0; i < 3; i++) {
            if (ask("gang", sheet, i, 0, 0) == 0) {
                sort = i;
            }
        }
        if (sort < 0) {
            return;
        }
        int size = 0;
        for (int by = 32; by > 0; by /= 2) {
            if (ask("copy", sheet, 0, sheet, 0, size + by) >= 0) {
                size += by;
            }
        }
        for (int i = 0; i + 3 <= Math.min(size, 9); i += 3) {
            ask("image");
            ask("gang", sheet, sort, i, 1);
            int last = (int) ask("count", 0) - 1;
            ask("told", last, 4);
            ask("told", last, 5);
            ask("told", last, 6);
            ask("back");
        }
    }
}
