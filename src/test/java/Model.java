import java.util.ArrayList;
import java.util.HashMap;
import java.util.List;
import java.util.Map;
import java.util.function.IntBinaryOperator;
import java.util.function.IntUnaryOperator;

/**
 * The document told a second time, by other means (trees, copies, the library), for ModelTest to
 * compare with. It is slow, and makes no attempt to be small.
 */
final class Model {
    static final int NONE = -1, BAD = -2, STATE = -3, FULL = -4;
    static final long NO = -4611686018427387904L;

    /** What a text may name. */
    record View(int thought, int air, int number, int at, int patches, int day) {
    }

    interface Expression {
        int of(View v);
    }

    record Rule(int number, Map<String, Expression> parts) {
        int bounded(String part, View v) {
            return Math.min(99, Math.max(0, parts.get(part).of(v)));
        }
    }

    record Image(int[] road, int day, Rule rule, List<One> riders) {
    }

    static final class Fault extends RuntimeException {
        private static final long serialVersionUID = 1;

        final int place;

        Fault(int place) {
            this.place = place;
        }
    }

    // ---- kinds, as a tree of classes

    static class Kind {
        int lets(One r, World w) {
            return w.rule.bounded("lets", w.view(r));
        }

        int holds(One r, World w) {
            return w.rule.bounded("holds", w.view(r));
        }

        int pumps(One r, World w) {
            return w.rule.bounded("pumps", w.view(r));
        }
    }

    static class Curate extends Kind {
        int lets(One r, World w) {
            return r.at % 5 == r.number % 5 ? super.lets(r, w) * 2 : super.lets(r, w);
        }

        int holds(One r, World w) {
            return super.holds(r, w) - 10;
        }
    }

    static class Dull extends Kind {
        int lets(One r, World w) {
            return super.lets(r, w) / 2;
        }

        int pumps(One r, World w) {
            return super.pumps(r, w) + 1;
        }
    }

    static class Doubter extends Curate {
        int lets(One r, World w) {
            return super.lets(r, w) + r.number;
        }

        int holds(One r, World w) {
            return super.holds(r, w) / 2;
        }

        int pumps(One r, World w) {
            return w.day % 2 != 0 ? 0 : super.pumps(r, w);
        }
    }

    static class Bold extends Dull {
        int lets(One r, World w) {
            return w.road[r.at] < 4 ? 0 : super.lets(r, w);
        }

        int holds(One r, World w) {
            return super.holds(r, w) + 5;
        }
    }

    static class Thinker extends Kind {
        int lets(One r, World w) {
            return 0;
        }

        int holds(One r, World w) {
            return 1;
        }

        int pumps(One r, World w) {
            return r.number;
        }
    }

    static final Kind[] KINDS = {new Kind(), new Curate(), new Dull(), new Doubter(), new Bold(), new Thinker()};

    static final class One implements Cloneable {
        int kind, number, patches, at, air = 99, flat;
        // since it was copied
        int walks;
        List<Integer> flatAt = new ArrayList<>();

        One copy() {
            One c = new One();
            c.kind = kind;
            c.number = number;
            c.patches = patches;
            c.at = at;
            c.air = air;
            c.flat = flat;
            return c;
        }

        void step(World w) {
            if (at == 23) {
                return;
            }
            Kind k = KINDS[kind];
            if (air == 0) {
                if (patches == 0) {
                    at++;
                    walks++;
                } else {
                    int held = Math.min(99, Math.max(1, k.holds(this, w)));
                    air = held;
                    patches--;
                }
                return;
            }
            at++;
            int pumps = Math.min(99, Math.max(0, k.pumps(this, w)));
            int lets = Math.min(99, Math.max(0, k.lets(this, w)));
            air = Math.min(99, air + pumps);
            air = Math.max(0, air - lets);
            if (air == 0) {
                flat = Math.min(999, flat + 1);
                flatAt.add(at);
            }
        }

        int takes(World w) {
            One c = copy();
            int n = 0;
            for (; c.at != 23; n++) {
                c.step(w);
            }
            return n;
        }
    }

    static final class World {
        int[] road = new int[24];
        int day;
        Rule rule;

        World copy() {
            World c = new World();
            c.road = road.clone();
            c.day = day;
            c.rule = rule;
            return c;
        }

        View view(One r) {
            return new View(road[r.at], r.air, r.number, r.at, r.patches, day);
        }
    }

    // ---- texts, read from the left, each byte when it is needed

    static final class Reading {
        final String tape;
        int place;
        int open;
        String token;
        int tokenPlace;

        Reading(String tape) {
            this.tape = tape;
            next();
        }

        static final List<String> NAMES = List.of("thought", "air", "number", "at", "patches", "day");
        static final List<String> KEYS = List.of("lets", "holds", "pumps", "or", "and", "not");

        void next() {
            while (place < tape.length() && (tape.charAt(place) == ' ' || tape.charAt(place) == '\n')) {
                place++;
            }
            tokenPlace = place;
            if (place == tape.length()) {
                token = "";
                return;
            }
            String rest = tape.substring(place);
            String run = rest.replaceFirst("(?s)^([a-z]+|[0-9]+).*$", "$1");
            boolean isRun = rest.matches("(?s)^([a-z]|[0-9]).*$");
            token = isRun ? run : rest.substring(0, 1);
            boolean fits = token.matches("[0-9]{1,4}") || NAMES.contains(token) || KEYS.contains(token)
                || token.matches("[();+*<=-]");
            if (!fits) {
                throw new Fault(tokenPlace);
            }
            place += token.length();
        }

        void take(String due) {
            if (!token.equals(due)) {
                throw new Fault(tokenPlace);
            }
            next();
        }

        void open() {
            if (open == 5) {
                throw new Fault(tokenPlace);
            }
            open++;
            next();
        }

        Rule rule(int number) {
            Map<String, Expression> parts = new HashMap<>();
            for (String part : new String[] {"lets", "holds", "pumps"}) {
                take(part);
                parts.put(part, or());
                take(";");
            }
            if (!token.isEmpty()) {
                throw new Fault(tokenPlace);
            }
            return new Rule(number, parts);
        }

        static Expression two(Expression a, Expression b, IntBinaryOperator f) {
            return v -> f.applyAsInt(a.of(v), b.of(v));
        }

        static Expression one(Expression a, IntUnaryOperator f) {
            return v -> f.applyAsInt(a.of(v));
        }

        Expression or() {
            Expression e = and();
            while (token.equals("or")) {
                next();
                e = two(e, and(), (a, b) -> a != 0 || b != 0 ? 1 : 0);
            }
            return e;
        }

        Expression and() {
            Expression e = not();
            while (token.equals("and")) {
                next();
                e = two(e, not(), (a, b) -> a != 0 && b != 0 ? 1 : 0);
            }
            return e;
        }

        Expression not() {
            if (token.equals("not")) {
                open();
                Expression e = not();
                open--;
                return one(e, a -> a == 0 ? 1 : 0);
            }
            Expression e = sum();
            if (token.equals("<")) {
                next();
                return two(e, sum(), (a, b) -> a < b ? 1 : 0);
            }
            if (token.equals("=")) {
                next();
                return two(e, sum(), (a, b) -> a == b ? 1 : 0);
            }
            return e;
        }

        Expression sum() {
            Expression e = term();
            while (token.equals("+") || token.equals("-")) {
                boolean more = token.equals("+");
                next();
                e = more ? two(e, term(), (a, b) -> a + b) : two(e, term(), (a, b) -> a - b);
            }
            return e;
        }

        Expression term() {
            Expression e = single();
            while (token.equals("*")) {
                next();
                e = two(e, single(), (a, b) -> a * b);
            }
            return e;
        }

        Expression single() {
            String t = token;
            if (t.matches("[0-9]+")) {
                next();
                int n = Integer.parseInt(t);
                return v -> n;
            }
            if (NAMES.contains(t)) {
                next();
                return switch (t) {
                    case "thought" -> View::thought;
                    case "air" -> View::air;
                    case "number" -> View::number;
                    case "at" -> View::at;
                    case "patches" -> View::patches;
                    default -> View::day;
                };
            }
            if (t.equals("-")) {
                open();
                Expression e = single();
                open--;
                return one(e, a -> -a);
            }
            if (t.equals("(")) {
                open();
                Expression e = or();
                take(")");
                open--;
                return e;
            }
            throw new Fault(tokenPlace);
        }
    }

    // ---- the state

    World world = new World();
    List<One> riders = new ArrayList<>();
    List<Rule> texts = new ArrayList<>();
    String tape = "";
    Image kept;
    Object[] sheets = new Object[4];

    Model() {
        texts.add(new Reading("lets thought * 7 ; holds 40 ; pumps 1 ;").rule(0));
        world.rule = texts.get(0);
    }

    private One one(int i) {
        return i < 0 || i >= riders.size() ? null : riders.get(i);
    }

    private static boolean in(int v, int low, int high) {
        return v >= low && v <= high;
    }

    int set(int what, int of, int v) {
        int was = what > 5 ? BAD : told(of, what);
        if (was == BAD || !in(v, 0, what == 0 ? 999 : what == 4 ? 23 : what == 5 ? 99 : 9)) {
            return BAD;
        }
        switch (what) {
            case 0 -> world.day = v;
            case 1 -> world.road[of] = v;
            case 2 -> one(of).number = v;
            case 3 -> one(of).patches = v;
            case 4 -> one(of).at = v;
            default -> one(of).air = v;
        }
        return was;
    }

    int rider(int kind, int number, int patches) {
        if (!in(kind, 0, 5) || !in(number, 0, 9) || !in(patches, 0, 9)) {
            return BAD;
        }
        if (riders.size() == 5) {
            return FULL;
        }
        One r = new One();
        r.kind = kind;
        r.number = number;
        r.patches = patches;
        riders.add(r);
        return riders.size() - 1;
    }

    int told(int of, int what) {
        if (what == 0) {
            return world.day;
        }
        if (what == 1) {
            return in(of, 0, 23) ? world.road[of] : BAD;
        }
        One r = one(of);
        if (r == null) {
            return BAD;
        }
        return switch (what) {
            case 2 -> r.number;
            case 3 -> r.patches;
            case 4 -> r.at;
            case 5 -> r.air;
            case 6 -> r.kind;
            case 7 -> r.flat;
            case 8 -> Math.min(99, Math.max(0, KINDS[r.kind].lets(r, world)));
            case 9 -> Math.min(99, Math.max(1, KINDS[r.kind].holds(r, world)));
            case 10 -> Math.min(99, Math.max(0, KINDS[r.kind].pumps(r, world)));
            default -> BAD;
        };
    }

    int feed(int letter) {
        if (!in(letter, 0, 255)) {
            return BAD;
        }
        if (tape.length() == 160) {
            return FULL;
        }
        tape += (char) letter;
        return tape.length();
    }

    int text() {
        if (texts.size() == 6) {
            return FULL;
        }
        String was = tape;
        tape = "";
        try {
            texts.add(new Reading(was).rule(texts.size()));
            return texts.size() - 1;
        } catch (Fault f) {
            return -100 - f.place;
        }
    }

    int force(int text) {
        if (!in(text, 0, texts.size() - 1)) {
            return BAD;
        }
        int was = world.rule.number();
        world.rule = texts.get(text);
        return was;
    }

    int step(int rider) {
        One r = one(rider);
        if (r == null) {
            return BAD;
        }
        if (r.at == 23) {
            return STATE;
        }
        r.step(world);
        return r.air;
    }

    int day(int n) {
        if (!in(n, 0, 60)) {
            return BAD;
        }
        if (world.day == 999) {
            return STATE;
        }
        for (One r : riders) {
            for (int i = 0; i < n; i++) {
                r.step(world);
            }
        }
        world.day++;
        return count(1);
    }

    int run(int rider, int n, int what) {
        if (one(rider) == null || !in(n, 0, 60) || !in(what, 0, 4)) {
            return BAD;
        }
        One c = one(rider).copy();
        for (int i = 0; i < n; i++) {
            c.step(world);
        }
        return new int[] {c.at, c.air, c.patches, c.flatAt.size(), c.walks}[what];
    }

    int takes(int rider) {
        return one(rider) == null ? BAD : one(rider).takes(world);
    }

    int fewest(int rider) {
        if (one(rider) == null) {
            return BAD;
        }
        for (int p = 0; p <= 9; p++) {
            One c = one(rider).copy();
            c.patches = p;
            for (int i = 0; i < 240; i++) {
                c.step(world);
            }
            if (c.walks == 0) {
                return p;
            }
        }
        return NONE;
    }

    int ease(int rider, int what) {
        if (one(rider) == null || !in(what, 0, 1)) {
            return BAD;
        }
        int best = NONE;
        int least = takes(rider);
        for (int p = 0; p < 24; p++) {
            World w = world.copy();
            w.road[p] = 0;
            int n = one(rider).takes(w);
            if (n < least) {
                least = n;
                best = p;
            }
        }
        return what == 0 ? best : least;
    }

    int change(int rider, int what) {
        if (one(rider) == null || !in(what, 0, 1)) {
            return BAD;
        }
        int best = NONE;
        int least = takes(rider);
        for (int pair = 0; pair < 2400; pair++) {
            int i = pair / 100;
            int j = pair % 100;
            if (j > i && j < 24) {
                World w = world.copy();
                w.road[i] = world.road[j];
                w.road[j] = world.road[i];
                int n = one(rider).takes(w);
                if (n < least) {
                    least = n;
                    best = pair;
                }
            }
        }
        return what == 0 ? best : least;
    }

    int bears(int rider, int on) {
        One r = one(rider);
        if (r == null || !in(on, 0, 23)) {
            return BAD;
        }
        int heaviest = NONE;
        for (int t = 0; t <= 9; t++) {
            World w = world.copy();
            w.road[on] = t;
            One c = r.copy();
            boolean came = false;
            for (int i = 0; i < 240; i++) {
                int was = c.at;
                c.step(w);
                came |= c.at == on && was != on;
            }
            if (came && !c.flatAt.contains(on)) {
                heaviest = t;
            }
        }
        return heaviest;
    }

    int all(int what) {
        if (!in(what, 0, 4)) {
            return BAD;
        }
        int first = NONE;
        int sum = 0;
        int[] flats = new int[24];
        for (int i = 0; i < riders.size(); i++) {
            sum += takes(i);
            if (first == NONE || takes(i) < takes(first)) {
                first = i;
            }
            One c = one(i).copy();
            for (int k = 0; k < 240; k++) {
                c.step(world);
            }
            for (int p : c.flatAt) {
                flats[p]++;
            }
        }
        int worst = NONE;
        for (int p = 23; p >= 0; p--) {
            if (flats[p] > 0 && (worst == NONE || flats[p] >= flats[worst])) {
                worst = p;
            }
        }
        return switch (what) {
            case 0 -> first;
            case 1 -> first == NONE ? NONE : takes(first);
            case 2 -> worst;
            case 3 -> worst == NONE ? 0 : flats[worst];
            default -> sum;
        };
    }

    int spread(int what) {
        if (!in(what, 0, 1)) {
            return BAD;
        }
        if (riders.size() > 3) {
            return STATE;
        }
        if (riders.isEmpty()) {
            return 0;
        }
        int best = NONE;
        int least = 0;
        int high = (int) Math.round(Math.pow(10, riders.size()));
        for (int deal = 0; deal < high; deal++) {
            String digits = String.format("%0" + riders.size() + "d", deal);
            int sum = 0;
            int steps = 0;
            for (int i = 0; i < riders.size(); i++) {
                One c = one(i).copy();
                c.patches = digits.charAt(i) - '0';
                sum += c.patches;
                steps += c.takes(world);
            }
            if (sum == count(2) && (best == NONE || steps < least)) {
                best = deal;
                least = steps;
            }
        }
        return what == 0 ? best : least;
    }

    private static int size(Object row) {
        return java.lang.reflect.Array.getLength(row);
    }

    private static int item(Object row, int i) {
        return java.lang.reflect.Array.getInt(row, i);
    }

    private static int otherwise(Object row, One from, World w) {
        One c = from.copy();
        for (int i = 0; i < size(row); i++) {
            c.step(w);
            if (c.air != item(row, i)) {
                return i;
            }
        }
        return NONE;
    }

    int tells(int sheet, int rider, int what) {
        if (!in(sheet, 0, 3) || one(rider) == null || !(in(what, 0, 6) || in(what, 10, 33))) {
            return BAD;
        }
        Object row = sheets[sheet];
        if (row == null) {
            return -11;
        }
        if (size(row) > 30) {
            return BAD;
        }
        if (what == 0) {
            return otherwise(row, one(rider), world);
        }
        int most = what == 1 ? 6 : what == 6 ? texts.size() : what == 4 || what == 5 ? 100 : 10;
        int bits = 0;
        int many = 0;
        int least = NONE;
        for (int v = most - 1; v >= 0; v--) {
            One c = one(rider).copy();
            World w = world.copy();
            switch (what) {
                case 1 -> c.kind = v;
                case 2 -> c.number = v;
                case 3 -> c.patches = v;
                case 4, 5 -> c.air = v;
                case 6 -> w.rule = texts.get(v);
                default -> w.road[what - 10] = v;
            }
            if (otherwise(row, c, w) == NONE) {
                many++;
                least = v;
                if (v < 31) {
                    bits |= 1 << v;
                }
            }
        }
        return what == 4 ? many : what == 5 ? least : bits;
    }

    int film(int sheet, int rider, int n) {
        if (!in(sheet, 0, 3) || one(rider) == null || !in(n, 0, 30)) {
            return BAD;
        }
        byte[] row = new byte[n];
        One c = one(rider).copy();
        for (int i = 0; i < n; i++) {
            c.step(world);
            row[i] = (byte) c.air;
        }
        sheets[sheet] = row;
        return n;
    }

    int drawn(int seed, int rider) {
        if (one(rider) == null) {
            return BAD;
        }
        World w = world.copy();
        int z = seed;
        for (int p = 0; p < 24; p++) {
            z = (int) ((long) z * 1103515245L + 12345L);
            w.road[p] = (int) (((z & 0xffffffffL) >> 9) % 10);
        }
        return one(rider).takes(w);
    }

    long chance(int seed, int m, int rider, int k, int part) {
        if (one(rider) == null || !in(m, 1, 20) || !in(k, 0, 240) || !in(part, 0, 1)) {
            return NO;
        }
        int good = 0;
        for (int i = 0; i < m; i++) {
            good += drawn(seed + i, rider) <= k ? 1 : 0;
        }
        int gcd = java.math.BigInteger.valueOf(good).gcd(java.math.BigInteger.valueOf(m)).intValue();
        return (part == 0 ? good : m) / gcd;
    }

    int image() {
        List<One> copies = new ArrayList<>();
        for (One r : riders) {
            copies.add(r.copy());
        }
        kept = new Image(world.road.clone(), world.day, world.rule, copies);
        return riders.size();
    }

    int back() {
        if (kept == null) {
            return STATE;
        }
        world.road = kept.road().clone();
        world.day = kept.day();
        world.rule = kept.rule();
        riders.clear();
        for (One r : kept.riders()) {
            riders.add(r.copy());
        }
        return riders.size();
    }

    int count(int what) {
        return switch (what) {
            case 0 -> riders.size();
            case 1 -> (int) riders.stream().filter(r -> r.at == 23).count();
            case 2 -> riders.stream().mapToInt(r -> r.patches).sum();
            case 3 -> texts.size();
            case 4 -> tape.length();
            case 5 -> world.rule.number();
            default -> BAD;
        };
    }

    int sheet(int sheet, int sort, int n) {
        if (!in(sheet, 0, 3) || !in(sort, -1, 2)) {
            return BAD;
        }
        if (sort != -1 && n > 40) {
            return BAD;
        }
        if (sort != -1 && n < 0) {
            return -14;
        }
        sheets[sheet] = switch (sort) {
            case 0 -> new byte[n];
            case 1 -> new short[n];
            case 2 -> new int[n];
            default -> null;
        };
        return 1;
    }

    int cell(int sheet, int i, int v) {
        if (!in(sheet, 0, 3)) {
            return BAD;
        }
        Object row = sheets[sheet];
        if (row == null) {
            return -11;
        }
        if (!in(i, 0, size(row) - 1)) {
            return -12;
        }
        if (row instanceof byte[] b) {
            b[i] = (byte) v;
        } else if (row instanceof short[] s) {
            s[i] = (short) v;
        } else {
            ((int[]) row)[i] = v;
        }
        return 1;
    }

    int copy(int sheet, int i, int other, int j, int n) {
        if (!in(sheet, 0, 3) || !in(other, 0, 3)) {
            return BAD;
        }
        if (sheets[sheet] == null || sheets[other] == null) {
            return -11;
        }
        try {
            System.arraycopy(sheets[sheet], i, sheets[other], j, n);
            return n;
        } catch (ArrayStoreException e) {
            return -13;
        } catch (IndexOutOfBoundsException e) {
            return -12;
        }
    }

    int riders(int sheet, int sort, int from, int n) {
        if (!in(sheet, 0, 3) || !in(sort, 0, 2) || !in(n, 0, 5)) {
            return BAD;
        }
        Object row = sheets[sheet];
        Class<?> due = sort == 0 ? byte[].class : sort == 1 ? short[].class : int[].class;
        if (row != null && row.getClass() != due) {
            return -13;
        }
        if (row == null) {
            return -11;
        }
        int came = 0;
        for (int k = 0; k < n; k++) {
            int[] three = new int[3];
            for (int c = 0; c < 3; c++) {
                long place = (long) from + 3L * k + c;
                if (place < 0 || place >= size(row)) {
                    return -12;
                }
                three[c] = item(row, (int) place);
            }
            came += rider(three[0], three[1], three[2]) >= 0 ? 1 : 0;
        }
        return came;
    }

    int taken(int rider, int k) {
        if (!in(k, 0, 5)) {
            return BAD;
        }
        if (one(rider) == null) {
            return -11;
        }
        return KINDS[k].getClass().isInstance(KINDS[one(rider).kind]) ? one(rider).number : -13;
    }
}
