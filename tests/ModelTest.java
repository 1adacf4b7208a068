/** Runs of 512 calls that are drawn, each answered by the class as by the model; wild numbers among them. */
public final class ModelTest {
    private static final int RUNS = 1200, CALLS = 512;

    private static final String[] CALL = {"set", "wright", "told", "asks", "feed", "text", "force", "builds", "bound",
        "home", "day", "run", "down", "yard", "stands", "go", "worst", "mean", "tells", "film", "drawn", "chance",
        "image", "back", "count", "sheet", "cell", "copy", "gang", "taken"};
    /** How often each comes. */
    private static final int[] OFTEN = {14, 6, 8, 4, 2, 1, 3, 10, 3, 1, 6, 5, 1, 2, 1, 2, 2, 1, 8, 3, 2, 1, 1, 2, 3, 3, 4, 3, 3, 2};

    private long drawing;
    private WhoBuiltSails x;
    private Model m;
    private boolean isTame;
    private boolean isAtEdges;

    public static void main(String[] args) {
        for (int run = 0; run < RUNS; run++) {
            new ModelTest().run(run);
        }
        Due.ends();
    }

    private int draw(int size) {
        drawing = drawing * 6364136223846793005L + 1442695040888963407L;
        return (int) ((drawing >>> 33) % size);
    }

    /** Mostly 0 .. most, at times just outside, or far; of runs at the edges just within and just outside alone. */
    private int upTo(int most) {
        if (isAtEdges) {
            int[] edges = {0, 0, 0, 1, most - 1, most, most, most, -1, most + 1};
            return edges[draw(draw(3) == 0 ? edges.length : edges.length - 2)];
        }
        int kind = isTame ? draw(200) : draw(30);
        if (kind > 2) {
            return draw(most + 1);
        }
        int[] wild = {-1, most + 1, -2, most + 2, Integer.MIN_VALUE, Integer.MAX_VALUE, 256, 65536, 100, most, 0, most};
        return wild[draw(wild.length)];
    }

    private void run(int number) {
        drawing = number * 977L + 13;
        isTame = draw(3) != 0;
        isAtEdges = number % 4 == 3;
        x = new WhoBuiltSails();
        m = new Model();
        StringBuilder trace = new StringBuilder();
        for (int i = 0; i < CALLS; ) {
            int call = draw(40) == 0 ? -1 : drawCall();
            if (call < 0) {
                i += feedText(trace, CALLS - i);
                continue;
            }
            i++;
            int[] a = arguments(call);
            long got = Calls.ask(x, CALL[call], a);
            long due = askModel(call, a);
            trace.append(CALL[call]).append(java.util.Arrays.toString(a)).append('=').append(due).append(' ');
            Due.is("run " + number + " call " + i + " " + CALL[call] + java.util.Arrays.toString(a), got, due);
            if (got != due) {
                System.out.println(trace);
                Due.ends();
            }
        }
    }

    private int drawCall() {
        int all = 0;
        for (int often : OFTEN) {
            all += often;
        }
        int at = draw(all);
        int call = 0;
        while (at >= OFTEN[call]) {
            at -= OFTEN[call];
            call++;
        }
        return call;
    }

    /** A TEXT that is drawn, now and then with a byte changed: how many calls it took. */
    private int feedText(StringBuilder trace, int left) {
        int depth = 1 + draw(4);
        StringBuilder bytes = new StringBuilder();
        for (String key : new String[] {"makes", "mends", "pumps"}) {
            bytes.append(key).append(' ').append(expression(depth)).append(blank()).append(';').append(blank());
        }
        if (draw(3) == 0) {
            int at = draw(bytes.length());
            int how = draw(3);
            String letters = "(-;<=+* )019az\n\t!" + (char) 233;
            char letter = letters.charAt(draw(letters.length()));
            if (how == 0) {
                bytes.deleteCharAt(at);
            } else if (how == 1) {
                bytes.insert(at, letter);
            } else {
                bytes.setCharAt(at, letter);
            }
        }
        if (bytes.length() > 160 || bytes.length() + 2 > left) {
            return 0;
        }
        for (int i = 0; i < bytes.length(); i++) {
            Due.is("feed", x.feed(bytes.charAt(i)), m.feed(bytes.charAt(i)));
        }
        int due = m.text();
        trace.append('"').append(bytes).append("\"=").append(due).append(' ');
        Due.is("text of " + bytes, x.text(), due);
        if (due > 0) {
            Due.is("force", x.force(due), m.force(due));
        }
        return bytes.length() + 2;
    }

    private String blank() {
        return draw(6) == 0 ? draw(2) == 0 ? " " : "\n" : "";
    }

    private String expression(int depth) {
        String[] names = {"skill", "sound", "number", "day", "water", "part"};
        if (depth == 0 || draw(5) == 0) {
            return draw(3) == 0 ? "" + draw(draw(5) == 0 ? 12000 : 12) : names[draw(6)];
        }
        String left = expression(depth - 1);
        switch (draw(9)) {
            case 0: return "(" + left + ")" + blank();
            case 1: return "-" + left;
            case 2: return "not " + left;
            case 3: return left + blank() + "<" + expression(depth - 1);
            case 4: return left + "=" + expression(depth - 1);
            case 5: return left + " or " + expression(depth - 1);
            case 6: return left + " and " + expression(depth - 1);
            case 7: return left + "*" + blank() + expression(depth - 1);
            default: return left + (draw(2) == 0 ? "+" : "-") + expression(depth - 1);
        }
    }

    private int[] arguments(int call) {
        switch (CALL[call]) {
            case "set": {
                int what = upTo(5);
                int[] most = {999, 99, draw(12) == 0 ? 100 : 60, 99, 9, 99};
                int of = what == 3 ? upTo(9) : upTo(4);
                return new int[] {what, of, upTo(what < 0 || what > 5 ? 9 : what == 1 && draw(2) == 0 ? 40 : most[what])};
            }
            case "wright": return new int[] {upTo(5), upTo(9), upTo(99)};
            case "told": {
                int what = upTo(11);
                return new int[] {what == 3 || what > 9 ? upTo(9) : upTo(4), what};
            }
            case "asks": return new int[] {upTo(4), upTo(9), upTo(1)};
            case "feed": return new int[] {upTo(255)};
            case "force": return new int[] {upTo(5)};
            case "builds": return new int[] {upTo(4), upTo(9)};
            case "run": return new int[] {upTo(40), draw(2) == 0 ? upTo(2) : 10 + upTo(9)};
            case "yard": return new int[] {draw(3) == 0 ? upTo(20) : upTo(5), upTo(1)};
            case "stands": return new int[] {upTo(40)};
            case "go": return new int[] {upTo(40), upTo(1)};
            case "mean": return new int[] {upTo(1)};
            case "tells": return new int[] {upTo(3), upTo(4), upTo(8)};
            case "film": return new int[] {upTo(3), draw(2) == 0 ? upTo(4) : upTo(20)};
            case "drawn": return new int[] {draw(2) == 0 ? upTo(9) : draw(Integer.MAX_VALUE) * 3, upTo(40)};
            case "chance": return new int[] {draw(2) == 0 ? upTo(9) : draw(Integer.MAX_VALUE) * 3, upTo(20), upTo(1)};
            case "count": return new int[] {upTo(5)};
            case "sheet": return new int[] {upTo(3), upTo(3) - 1, draw(2) == 0 ? upTo(9) : upTo(40)};
            case "cell": return new int[] {upTo(3), draw(2) == 0 ? upTo(2) : upTo(39), upTo(9)};
            case "copy": return new int[] {upTo(3), upTo(5), upTo(3), upTo(5), upTo(6)};
            case "gang": return new int[] {upTo(3), upTo(2), upTo(3), upTo(5)};
            case "taken": return new int[] {upTo(4), upTo(5)};
            default: return new int[0];
        }
    }

    private long askModel(int call, int[] a) {
        switch (CALL[call]) {
            case "set": return m.set(a[0], a[1], a[2]);
            case "wright": return m.wright(a[0], a[1], a[2]);
            case "told": return m.told(a[0], a[1]);
            case "asks": return m.asks(a[0], a[1], a[2]);
            case "feed": return m.feed(a[0]);
            case "text": return m.text();
            case "force": return m.force(a[0]);
            case "builds": return m.builds(a[0], a[1]);
            case "bound": return m.bound();
            case "home": return m.home();
            case "day": return m.day();
            case "run": return m.run(a[0], a[1]);
            case "down": return m.down();
            case "yard": return m.yard(a[0], a[1]);
            case "stands": return m.stands(a[0]);
            case "go": return m.go(a[0], a[1]);
            case "worst": return m.worst();
            case "mean": return m.mean(a[0]);
            case "tells": return m.tells(a[0], a[1], a[2]);
            case "film": return m.film(a[0], a[1]);
            case "drawn": return m.drawn(a[0], a[1]);
            case "chance": return m.chance(a[0], a[1], a[2]);
            case "image": return m.image();
            case "back": return m.back();
            case "count": return m.count(a[0]);
            case "sheet": return m.sheet(a[0], a[1], a[2]);
            case "cell": return m.cell(a[0], a[1], a[2]);
            case "copy": return m.copy(a[0], a[1], a[2], a[3], a[4]);
            case "gang": return m.gang(a[0], a[1], a[2], a[3]);
            default: return m.taken(a[0], a[1]);
        }
    }
}
