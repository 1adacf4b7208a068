import java.util.ArrayList;
import java.util.Arrays;
import java.util.List;
import java.util.function.IntSupplier;
import java.util.function.ToIntFunction;
import java.util.regex.Matcher;
import java.util.regex.Pattern;

/**
 * The document once more, written otherwise than the class: KINDS are classes, an E is a tree,
 * what is in thought is a new object, and what is outside is an exception.
 */
final class Model {
    static final int NONE = -1, BAD = -2, STATE = -3, FULL = -4;
    static final long NO = -4611686018427387904L;

    private static final class Refused extends RuntimeException {
        private static final long serialVersionUID = 1L;
        final int answer;

        Refused(int answer) {
            super(null, null, false, false);
            this.answer = answer;
        }
    }

    // ---- KINDS

    private static class Wright {
        int number;
        int skill;
        int place;
        Ship ship;

        int kind() {
            return 0;
        }

        List<Integer> made() {
            List<Integer> made = new ArrayList<>();
            for (int p = 0; p < 10; p++) {
                if (ship.maker[p] >= 0 && ship.wrights.get(ship.maker[p]) == this) {
                    made.add(p);
                }
            }
            return made;
        }

        int othersMade(int part) {
            List<Integer> made = made();
            made.remove((Integer) part);
            return made.size();
        }

        int othersAboard() {
            return (int) ship.wrights.stream().filter(w -> w != this && w.place == 1).count();
        }

        long v(int of, int part) {
            int[] names = {skill, part < 0 ? 0 : ship.sound[part], number, ship.day, ship.water, Math.max(part, 0)};
            return bounded(ship.rule.es.get(of).applyAsInt(names));
        }

        long makes(int part) {
            return v(0, part);
        }

        long mends(int part) {
            return v(1, part);
        }

        long pumps() {
            return v(2, -1);
        }
    }

    private static class Caulker extends Wright {
        @Override int kind() {
            return 1;
        }

        @Override long makes(int part) {
            return super.makes(part) + (part % 2 == 0 ? number : 0);
        }

        @Override long mends(int part) {
            return super.mends(part) * (part % 2 == 0 ? 2 : 1);
        }

        @Override long pumps() {
            return super.pumps() / 2;
        }
    }

    private static class Brother extends Wright {
        @Override int kind() {
            return 2;
        }

        @Override long makes(int part) {
            return othersMade(part) == 0 ? super.makes(part) / 2 : super.makes(part);
        }

        @Override long pumps() {
            return super.pumps() + othersAboard();
        }
    }

    private static final class Knot extends Caulker {
        @Override int kind() {
            return 3;
        }

        @Override long makes(int part) {
            return super.makes(part) + othersMade(part);
        }

        @Override long mends(int part) {
            return super.mends(part) + 1;
        }
    }

    private static final class Careful extends Brother {
        @Override int kind() {
            return 4;
        }

        @Override long makes(int part) {
            return super.makes(part) + 10;
        }

        @Override long mends(int part) {
            return ship.sound[part] >= 50 ? 0 : super.mends(part);
        }

        @Override long pumps() {
            return ship.water >= 30 ? super.pumps() : 0;
        }
    }

    private static final class Figurehead extends Wright {
        @Override int kind() {
            return 5;
        }

        @Override long makes(int part) {
            return part % 2 == 0 ? 0 : 99;
        }

        @Override long mends(int part) {
            return 0;
        }

        @Override long pumps() {
            return number;
        }
    }

    private static Wright ofKind(int kind, Wright like) {
        Wright[] each = {new Wright(), new Caulker(), new Brother(), new Knot(), new Careful(), new Figurehead()};
        Wright one = each[kind];
        one.number = like.number;
        one.skill = like.skill;
        one.place = like.place;
        return one;
    }

    private static int bounded(long v) {
        return v < 0 ? 0 : v > 99 ? 99 : (int) v;
    }

    // ---- the ship

    private static final class Ship {
        int[] maker = new int[10];
        int[] sound = new int[10];
        List<Wright> wrights = new ArrayList<>();
        int day;
        int sea = 20;
        int water;
        Text rule;

        Ship thought() {
            Ship s = new Ship();
            s.maker = maker.clone();
            s.sound = sound.clone();
            for (Wright w : wrights) {
                s.comes(ofKind(w.kind(), w));
            }
            s.day = day;
            s.sea = sea;
            s.water = water;
            s.rule = rule;
            return s;
        }

        void comes(Wright w) {
            w.ship = this;
            wrights.add(w);
        }

        int leak(int part) {
            int by = sound[part] < sea ? sea - sound[part] : 0;
            return part % 2 == 0 ? by : by / 2;
        }

        int leaks() {
            int sum = 0;
            for (int p = 0; p < 10; p++) {
                sum += leak(p);
            }
            return sum;
        }

        void builds(int one, int part) {
            sound[part] = bounded(wrights.get(one).makes(part));
            maker[part] = one;
        }

        void bound() {
            for (Wright w : wrights) {
                if (w.place == 0 && !w.made().isEmpty()) {
                    w.place = 1;
                }
            }
        }

        int at(int place) {
            int bits = 0;
            for (int i = 0; i < wrights.size(); i++) {
                bits += wrights.get(i).place == place ? 1 << i : 0;
            }
            return bits;
        }

        Ship days(int n) {
            for (int i = 0; i < n; i++) {
                aDay();
            }
            return this;
        }

        void aDay() {
            if (water == 100) {
                day++;
                return;
            }
            water = Math.min(water + leaks() / 10, 100);
            for (Wright w : wrights) {
                if (w.place == 1 && water < 100) {
                    water = Math.max(water - bounded(w.pumps()), 0);
                    List<Integer> made = w.made();
                    if (!made.isEmpty()) {
                        int least = made.get(0);
                        for (int p : made) {
                            least = sound[p] < sound[least] ? p : least;
                        }
                        sound[least] = Math.min(sound[least] + bounded(w.mends(least)), 99);
                    }
                }
            }
            if (water == 100) {
                wrights.stream().filter(w -> w.place == 1).forEach(w -> w.place = 2);
            }
            day++;
        }
    }

    // ---- TEXTS

    private static final class Text {
        int number;
        List<ToIntFunction<int[]>> es = new ArrayList<>();
    }

    private static final Pattern TOKEN = Pattern.compile("[ \\n]*([a-z]+|[0-9]+|[();+\\-*<=])?", Pattern.DOTALL);
    private static final List<String> NAMES = List.of("skill", "sound", "number", "day", "water", "part");

    private static final class Parser {
        final String tape;
        int at;
        int start;
        String token;
        int open;

        Parser(String tape) {
            this.tape = tape;
            next();
        }

        void next() {
            Matcher m = TOKEN.matcher(tape);
            m.region(at, tape.length());
            m.lookingAt();
            token = m.group(1);
            at = m.end();
            start = token == null ? at : m.start(1);
        }

        Refused fault() {
            return new Refused(-100 - start);
        }

        boolean eat(String due) {
            if (!due.equals(token)) {
                return false;
            }
            next();
            return true;
        }

        void must(String due) {
            if (!eat(due)) {
                throw fault();
            }
        }

        void mayOpen() {
            if (open == 5) {
                throw fault();
            }
            open++;
            next();
        }

        Text text() {
            Text text = new Text();
            for (String key : List.of("makes", "mends", "pumps")) {
                must(key);
                text.es.add(e());
                must(";");
            }
            if (start < tape.length()) {
                throw fault();
            }
            return text;
        }

        ToIntFunction<int[]> e() {
            ToIntFunction<int[]> left = and();
            while (eat("or")) {
                ToIntFunction<int[]> l = left;
                ToIntFunction<int[]> r = and();
                left = n -> (l.applyAsInt(n) != 0 | r.applyAsInt(n) != 0) ? 1 : 0;
            }
            return left;
        }

        ToIntFunction<int[]> and() {
            ToIntFunction<int[]> left = not();
            while (eat("and")) {
                ToIntFunction<int[]> l = left;
                ToIntFunction<int[]> r = not();
                left = n -> (l.applyAsInt(n) != 0 & r.applyAsInt(n) != 0) ? 1 : 0;
            }
            return left;
        }

        ToIntFunction<int[]> not() {
            if ("not".equals(token)) {
                mayOpen();
                ToIntFunction<int[]> e = not();
                open--;
                return n -> e.applyAsInt(n) == 0 ? 1 : 0;
            }
            ToIntFunction<int[]> l = sum();
            if (eat("<")) {
                ToIntFunction<int[]> r = sum();
                return n -> l.applyAsInt(n) < r.applyAsInt(n) ? 1 : 0;
            }
            if (eat("=")) {
                ToIntFunction<int[]> r = sum();
                return n -> l.applyAsInt(n) == r.applyAsInt(n) ? 1 : 0;
            }
            return l;
        }

        ToIntFunction<int[]> sum() {
            ToIntFunction<int[]> left = term();
            while (true) {
                ToIntFunction<int[]> l = left;
                if (eat("+")) {
                    ToIntFunction<int[]> r = term();
                    left = n -> l.applyAsInt(n) + r.applyAsInt(n);
                } else if (eat("-")) {
                    ToIntFunction<int[]> r = term();
                    left = n -> l.applyAsInt(n) - r.applyAsInt(n);
                } else {
                    return left;
                }
            }
        }

        ToIntFunction<int[]> term() {
            ToIntFunction<int[]> left = one();
            while (eat("*")) {
                ToIntFunction<int[]> l = left;
                ToIntFunction<int[]> r = one();
                left = n -> l.applyAsInt(n) * r.applyAsInt(n);
            }
            return left;
        }

        ToIntFunction<int[]> one() {
            if (token == null) {
                throw fault();
            }
            if (token.equals("-")) {
                mayOpen();
                ToIntFunction<int[]> e = one();
                open--;
                return n -> -e.applyAsInt(n);
            }
            if (token.equals("(")) {
                mayOpen();
                ToIntFunction<int[]> e = e();
                must(")");
                open--;
                return e;
            }
            if (NAMES.contains(token)) {
                int name = NAMES.indexOf(token);
                next();
                return n -> n[name];
            }
            if (!token.matches("[0-9]{1,4}")) {
                throw fault();
            }
            int number = Integer.parseInt(token);
            next();
            return n -> number;
        }
    }

    // ---- the face

    private Ship ship = new Ship();
    private Ship image;
    private final List<Text> texts = new ArrayList<>();
    private StringBuilder tape = new StringBuilder();
    private final int[][] rows = new int[4][];
    private final int[] sorts = new int[4];

    Model() {
        Arrays.fill(ship.maker, -1);
        texts.add(new Parser("makes skill ; mends 1 ; pumps 3 ;").text());
        ship.rule = texts.get(0);
    }

    private static void bad(boolean isGood) {
        refuse(isGood, BAD);
    }

    private static void refuse(boolean isGood, int answer) {
        if (!isGood) {
            throw new Refused(answer);
        }
    }

    private static boolean in(int v, int least, int most) {
        return least <= v && v <= most;
    }

    private static int answer(IntSupplier call) {
        try {
            return call.getAsInt();
        } catch (Refused refused) {
            return refused.answer;
        }
    }

    private boolean one(int one) {
        return in(one, 0, ship.wrights.size() - 1);
    }

    int set(int what, int of, int v) {
        return answer(() -> {
            bad(in(what, 0, 5) && in(v, 0, new int[] {999, 99, 100, 99, 9, 99}[what]));
            bad(what != 3 || in(of, 0, 9));
            bad(what < 4 || one(of));
            int was = told(of, what);
            if (what == 0) {
                ship.day = v;
            } else if (what == 1) {
                ship.sea = v;
            } else if (what == 2) {
                ship.water = v;
            } else if (what == 3) {
                ship.sound[of] = v;
            } else if (what == 4) {
                ship.wrights.get(of).number = v;
            } else {
                ship.wrights.get(of).skill = v;
            }
            return was;
        });
    }

    int wright(int kind, int number, int skill) {
        return answer(() -> {
            bad(in(kind, 0, 5) && in(number, 0, 9) && in(skill, 0, 99));
            refuse(ship.wrights.size() < 5, FULL);
            Wright w = new Wright();
            w.number = number;
            w.skill = skill;
            ship.comes(ofKind(kind, w));
            return ship.wrights.size() - 1;
        });
    }

    int told(int of, int what) {
        if (!in(what, 0, 11)) {
            return -1000;
        }
        if (what < 3) {
            return new int[] {ship.day, ship.sea, ship.water}[what];
        }
        if (what == 3 || what > 9) {
            return !in(of, 0, 9) ? -1000 : what == 3 ? ship.sound[of] : what == 10 ? ship.maker[of] : ship.leak(of);
        }
        if (!one(of)) {
            return -1000;
        }
        Wright w = ship.wrights.get(of);
        int made = w.made().stream().mapToInt(p -> 1 << p).sum();
        return new int[] {w.number, w.skill, w.kind(), w.place, made, bounded(w.pumps())}[what - 4];
    }

    int asks(int one, int part, int what) {
        return answer(() -> {
            bad(one(one) && in(part, 0, 9) && in(what, 0, 1));
            Wright w = ship.wrights.get(one);
            return bounded(what == 0 ? w.makes(part) : w.mends(part));
        });
    }

    int feed(int letter) {
        return answer(() -> {
            bad(in(letter, 0, 255));
            refuse(tape.length() < 160, FULL);
            tape.append((char) letter);
            return tape.length();
        });
    }

    int text() {
        return answer(() -> {
            refuse(texts.size() < 6, FULL);
            String bytes = tape.toString();
            tape = new StringBuilder();
            Text text = new Parser(bytes).text();
            text.number = texts.size();
            texts.add(text);
            return text.number;
        });
    }

    int force(int text) {
        return answer(() -> {
            bad(in(text, 0, texts.size() - 1));
            int was = ship.rule.number;
            ship.rule = texts.get(text);
            return was;
        });
    }

    int builds(int one, int part) {
        return answer(() -> {
            bad(one(one) && in(part, 0, 9));
            refuse(ship.wrights.get(one).place == 0, STATE);
            ship.builds(one, part);
            return ship.sound[part];
        });
    }

    int bound() {
        ship.bound();
        return ship.at(1);
    }

    int home() {
        return answer(() -> {
            refuse(ship.water < 100, STATE);
            int who = ship.at(1);
            ship.wrights.stream().filter(w -> w.place == 1).forEach(w -> w.place = 0);
            return who;
        });
    }

    int day() {
        return answer(() -> {
            refuse(ship.day < 999 && ship.water < 100, STATE);
            ship.aDay();
            return ship.water;
        });
    }

    int run(int n, int what) {
        return answer(() -> {
            bad(in(n, 0, 40) && (in(what, 0, 2) || in(what, 10, 19)));
            Ship then = ship.thought().days(n);
            return what == 0 ? then.water : what == 1 ? then.at(2) : what == 2 ? then.leaks() : then.sound[what - 10];
        });
    }

    int down() {
        for (int n = 0; n <= 60; n++) {
            if (ship.thought().days(n).water == 100) {
                return n;
            }
        }
        return NONE;
    }

    private int bestWay;
    private int leastWater;

    private void ways(Ship so, int way, int left, int n) {
        int part = 0;
        while (part < 10 && so.maker[part] != -1) {
            part++;
        }
        if (left == 0 || part == 10 || ship.at(0) == 0) {
            Ship then = so.thought();
            then.bound();
            then.days(n);
            if (then.water < leastWater) {
                bestWay = way;
                leastWater = then.water;
            }
            return;
        }
        for (int one = 0; one < so.wrights.size(); one++) {
            if (so.wrights.get(one).place == 0) {
                Ship next = so.thought();
                next.builds(one, part);
                ways(next, way * 6 + one + 1, left - 1, n);
            }
        }
    }

    int yard(int n, int what) {
        return answer(() -> {
            bad(in(n, 0, 20) && in(what, 0, 1));
            leastWater = Integer.MAX_VALUE;
            ways(ship, 0, 3, n);
            return what == 0 ? bestWay : leastWater;
        });
    }

    int stands(int n) {
        return answer(() -> {
            bad(in(n, 1, 40));
            int best = NONE;
            for (int sea = 0; sea < 100; sea++) {
                Ship then = ship.thought();
                then.sea = sea;
                best = then.days(n).water < 100 ? sea : best;
            }
            return best;
        });
    }

    int go(int n, int what) {
        return answer(() -> {
            bad(in(n, 0, 40) && in(what, 0, 1));
            for (int size = 0; size <= ship.wrights.size(); size++) {
                for (int set = 0; set < 1 << ship.wrights.size(); set++) {
                    if (Integer.bitCount(set) == size && (set & ship.at(2)) == 0) {
                        Ship then = ship.thought();
                        for (int i = 0; i < then.wrights.size(); i++) {
                            Wright w = then.wrights.get(i);
                            w.place = w.place == 2 ? 2 : set >> i & 1;
                        }
                        if (then.days(n).water < 100) {
                            return what == 0 ? set : size;
                        }
                    }
                }
            }
            return NONE;
        });
    }

    int worst() {
        int worst = NONE;
        for (int p = 9; p >= 0; p--) {
            if (ship.leak(p) > 0 && (worst == NONE || ship.leak(p) >= ship.leak(worst))) {
                worst = p;
            }
        }
        return worst;
    }

    private static long fraction(long above, long below, int part) {
        java.math.BigInteger gcd = java.math.BigInteger.valueOf(above).gcd(java.math.BigInteger.valueOf(below));
        return (part == 0 ? above : below) / gcd.longValue();
    }

    long mean(int part) {
        return in(part, 0, 1) ? fraction(Arrays.stream(ship.sound).sum(), 10, part) : NO;
    }

    private static int otherwise(Ship so, int[] row) {
        for (int i = 0; i < row.length; i++) {
            if (so.thought().days(i + 1).water != row[i]) {
                return i;
            }
        }
        return NONE;
    }

    private interface Change {
        void to(Ship so, int v);
    }

    private List<Integer> fitting(int[] row, int size, Change change) {
        List<Integer> fitting = new ArrayList<>();
        for (int v = 0; v < size; v++) {
            Ship so = ship.thought();
            change.to(so, v);
            if (otherwise(so, row) == NONE) {
                fitting.add(v);
            }
        }
        return fitting;
    }

    int tells(int sheet, int one, int what) {
        return answer(() -> {
            bad(in(sheet, 0, 3) && one(one) && in(what, 0, 8));
            refuse(rows[sheet] != null, -11);
            int[] row = rows[sheet];
            bad(row.length <= 20);
            List<Integer> fitting = switch (what) {
                case 0 -> List.of();
                case 1 -> fitting(row, 6, (so, v) -> {
                    Wright w = ofKind(v, so.wrights.get(one));
                    w.ship = so;
                    so.wrights.set(one, w);
                });
                case 2 -> fitting(row, 10, (so, v) -> so.wrights.get(one).number = v);
                case 3, 4 -> fitting(row, 100, (so, v) -> so.wrights.get(one).skill = v);
                case 5, 6 -> fitting(row, 100, (so, v) -> so.sea = v);
                case 7 -> fitting(row, texts.size(), (so, v) -> so.rule = texts.get(v));
                default -> fitting(row, 10, (so, v) -> so.sound[v] = 99);
            };
            return switch (what) {
                case 0 -> otherwise(ship, row);
                case 3, 5 -> fitting.size();
                case 4, 6 -> fitting.isEmpty() ? NONE : fitting.get(0);
                default -> fitting.stream().mapToInt(v -> 1 << v).sum();
            };
        });
    }

    int film(int sheet, int n) {
        return answer(() -> {
            bad(in(sheet, 0, 3) && in(n, 0, 20));
            rows[sheet] = new int[n];
            sorts[sheet] = 0;
            for (int i = 0; i < n; i++) {
                rows[sheet][i] = ship.thought().days(i + 1).water;
            }
            return n;
        });
    }

    private Ship voyage(int seed, int n) {
        Ship then = ship.thought();
        int z = seed;
        for (int i = 0; i < n; i++) {
            z = (int) (z * 1103515245L + 12345L);
            then.sea = (int) ((z & 0xffffffffL) / 512 % 100);
            then.aDay();
        }
        return then;
    }

    int drawn(int seed, int n) {
        return in(n, 0, 40) ? voyage(seed, n).water : BAD;
    }

    long chance(int seed, int m, int part) {
        if (!in(m, 1, 20) || !in(part, 0, 1)) {
            return NO;
        }
        int downs = 0;
        for (int i = 0; i < m; i++) {
            downs += voyage(seed + i, 10).water == 100 ? 1 : 0;
        }
        return fraction(downs, m, part);
    }

    int image() {
        image = ship.thought();
        return image.wrights.size();
    }

    int back() {
        if (image == null) {
            return STATE;
        }
        ship = image.thought();
        return ship.wrights.size();
    }

    int count(int what) {
        int made = (int) Arrays.stream(ship.maker).filter(m -> m >= 0).count();
        int[] counts = {ship.wrights.size(), made, Integer.bitCount(ship.at(1)), texts.size(), tape.length(),
            ship.rule.number};
        return in(what, 0, 5) ? counts[what] : BAD;
    }

    int sheet(int sheet, int sort, int n) {
        return answer(() -> {
            bad(in(sheet, 0, 3) && in(sort, -1, 2));
            bad(sort == -1 || n <= 40);
            refuse(sort == -1 || n >= 0, -14);
            sorts[sheet] = sort;
            rows[sheet] = sort == -1 ? null : new int[n];
            return 1;
        });
    }

    int cell(int sheet, int i, int v) {
        return answer(() -> {
            bad(in(sheet, 0, 3));
            refuse(rows[sheet] != null, -11);
            refuse(in(i, 0, rows[sheet].length - 1), -12);
            rows[sheet][i] = sorts[sheet] == 0 ? (byte) v : sorts[sheet] == 1 ? (short) v : v;
            return 1;
        });
    }

    int copy(int sheet, int i, int other, int j, int n) {
        return answer(() -> {
            bad(in(sheet, 0, 3) && in(other, 0, 3));
            refuse(rows[sheet] != null && rows[other] != null, -11);
            refuse(sorts[sheet] == sorts[other], -13);
            try {
                System.arraycopy(rows[sheet], i, rows[other], j, n);
            } catch (IndexOutOfBoundsException outside) {
                return -12;
            }
            return n;
        });
    }

    int gang(int sheet, int sort, int from, int n) {
        return answer(() -> {
            bad(in(sheet, 0, 3) && in(sort, 0, 2) && in(n, 0, 5));
            refuse(rows[sheet] == null || sorts[sheet] == sort, -13);
            refuse(rows[sheet] != null, -11);
            int came = 0;
            for (long at = from; at < from + 3L * n; at += 3) {
                refuse(at >= 0 && at + 2 < rows[sheet].length, -12);
                int[] row = Arrays.copyOfRange(rows[sheet], (int) at, (int) at + 3);
                came += wright(row[0], row[1], row[2]) >= 0 ? 1 : 0;
            }
            return came;
        });
    }

    int taken(int one, int k) {
        return answer(() -> {
            bad(in(k, 0, 5));
            refuse(one(one), -11);
            Wright w = ship.wrights.get(one);
            refuse(ofKind(k, w).getClass().isInstance(w), -13);
            return w.number;
        });
    }
}
