import java.util.ArrayList;
import java.util.List;
import java.util.function.Predicate;
import java.util.function.ToIntFunction;

/**
 * The document once more, in the plainest form that comes to mind (sets of feet one by one, texts as trees),
 * so that HalfASize can be held against it. Calls are numbered as the promises are.
 */
final class Plain {
    static final class Make {
        int kind, number, run, stock;

        Make(int kind, int number, int run, int stock) {
            this.kind = kind;
            this.number = number;
            this.run = run;
            this.stock = stock;
        }

        int inside(int z) {
            return inside(kind, z);
        }

        private int inside(int k, int z) {
            switch (k) {
                case 0: return 5 * z + run;
                case 1: return inside(0, z) - number;
                case 2: return inside(0, z);
                case 3: return inside(1, z) - 3;
                case 4: return inside(2, z) + 2;
                default: return 10 * (z / 2) + run;
            }
        }

        int says(int z, int foot) {
            return saysBy(kind, inside(z) - foot);
        }

        private int saysBy(int k, int o) {
            switch (k) {
                case 0:
                    if (o < -4) return -2;
                    if (o <= -2) return -1;
                    if (o <= 4) return 0;
                    return o <= 8 ? 1 : 2;
                case 1: return saysBy(0, o);
                case 2: return saysBy(0, o + number / 3);
                case 3: return saysBy(1, o) >= 0 ? saysBy(1, o) - 1 : saysBy(1, o);
                case 4: return saysBy(2, o);
                default: return saysBy(0, o) == 1 ? 0 : saysBy(0, o);
            }
        }
    }

    static final class Fault extends RuntimeException {
        final int place;

        Fault(int place) {
            super(null, null, false, false);
            this.place = place;
        }
    }

    /** size make apart number foot hour. */
    static final String[] NAMES = {"size", "make", "apart", "number", "foot", "hour"};
    static final List<String> KEYS = List.of("swells", "rubs", "price", "or", "and", "not");

    static final class Text {
        final List<ToIntFunction<int[]>> parts = new ArrayList<>();
    }

    static final class Parser {
        final String all;
        int at;
        int open;

        Parser(String all) {
            this.all = all;
        }

        Text whole() {
            Text t = new Text();
            for (String key : new String[] {"swells", "rubs", "price"}) {
                want(key);
                t.parts.add(e());
                want(";");
            }
            blanks();
            if (at < all.length()) throw new Fault(at);
            return t;
        }

        void blanks() {
            while (at < all.length() && (all.charAt(at) == ' ' || all.charAt(at) == '\n')) at++;
        }

        /** The token that comes next, "" at the end; throws where none can be. */
        String peek() {
            blanks();
            if (at == all.length()) return "";
            String rest = all.substring(at);
            String word = rest.replaceFirst("(?s)[^a-z].*$", "");
            if (!word.isEmpty()) {
                if (!KEYS.contains(word) && !List.of(NAMES).contains(word)) throw new Fault(at);
                return word;
            }
            String digits = rest.replaceFirst("(?s)[^0-9].*$", "");
            if (!digits.isEmpty()) {
                if (digits.length() > 4) throw new Fault(at);
                return digits;
            }
            if ("();+-*<=".indexOf(rest.charAt(0)) < 0) throw new Fault(at);
            return rest.substring(0, 1);
        }

        boolean is(String token) {
            return peek().equals(token);
        }

        String next() {
            String t = peek();
            at += t.length();
            return t;
        }

        void want(String token) {
            if (!is(token)) throw new Fault(at);
            next();
        }

        ToIntFunction<int[]> e() {
            ToIntFunction<int[]> a = and();
            while (is("or")) {
                next();
                ToIntFunction<int[]> l = a, r = and();
                a = n -> l.applyAsInt(n) != 0 | r.applyAsInt(n) != 0 ? 1 : 0;
            }
            return a;
        }

        ToIntFunction<int[]> and() {
            ToIntFunction<int[]> a = not();
            while (is("and")) {
                next();
                ToIntFunction<int[]> l = a, r = not();
                a = n -> l.applyAsInt(n) != 0 & r.applyAsInt(n) != 0 ? 1 : 0;
            }
            return a;
        }

        void opens() {
            if (open == 5) throw new Fault(at);
            open++;
            next();
        }

        ToIntFunction<int[]> not() {
            if (is("not")) {
                opens();
                ToIntFunction<int[]> a = not();
                open--;
                return n -> a.applyAsInt(n) == 0 ? 1 : 0;
            }
            ToIntFunction<int[]> l = sum();
            if (is("<")) {
                next();
                ToIntFunction<int[]> r = sum();
                return n -> l.applyAsInt(n) < r.applyAsInt(n) ? 1 : 0;
            }
            if (is("=")) {
                next();
                ToIntFunction<int[]> r = sum();
                return n -> l.applyAsInt(n) == r.applyAsInt(n) ? 1 : 0;
            }
            return l;
        }

        ToIntFunction<int[]> sum() {
            ToIntFunction<int[]> a = term();
            while (is("+") || is("-")) {
                boolean plus = next().equals("+");
                ToIntFunction<int[]> l = a, r = term();
                a = n -> plus ? l.applyAsInt(n) + r.applyAsInt(n) : l.applyAsInt(n) - r.applyAsInt(n);
            }
            return a;
        }

        ToIntFunction<int[]> term() {
            ToIntFunction<int[]> a = one();
            while (is("*")) {
                next();
                ToIntFunction<int[]> l = a, r = one();
                a = n -> l.applyAsInt(n) * r.applyAsInt(n);
            }
            return a;
        }

        ToIntFunction<int[]> one() {
            String t = peek();
            if (t.equals("(")) {
                opens();
                ToIntFunction<int[]> a = e();
                want(")");
                open--;
                return a;
            }
            if (t.equals("-")) {
                opens();
                ToIntFunction<int[]> a = one();
                open--;
                return n -> -a.applyAsInt(n);
            }
            for (int i = 0; i < 6; i++) {
                int name = i;
                if (t.equals(NAMES[i])) {
                    next();
                    return n -> n[name];
                }
            }
            if (t.isEmpty() || t.charAt(0) < '0' || t.charAt(0) > '9') throw new Fault(at);
            int number = Integer.parseInt(next());
            return n -> number;
        }
    }

    int left = 40, right = 40, hour = 9, rule;
    int[] town = new int[100];
    List<Make> makes = new ArrayList<>();
    StringBuilder tape = new StringBuilder();
    List<Text> texts = new ArrayList<>();
    Object[] sheets = new Object[4];
    Plain kept;

    Plain() {
        texts.add(new Parser("swells ( 12 < hour ) * 3 ; rubs apart ; price 20 + size ;").whole());
    }

    boolean isMake(int m) {
        return m >= 0 && m < makes.size();
    }

    static boolean isFoot(int f) {
        return f >= 0 && f <= 99;
    }

    int set(int what, int of, int v) {
        int was;
        switch (what) {
            case 0:
                if (!isFoot(v)) return -100;
                was = left;
                left = v;
                return was;
            case 1:
                if (!isFoot(v)) return -100;
                was = right;
                right = v;
                return was;
            case 2:
                if (v < 0 || v > 23) return -100;
                was = hour;
                hour = v;
                return was;
            case 3:
                if (!isFoot(of) || v < 0 || v > 9) return -100;
                was = town[of];
                town[of] = v;
                return was;
            case 4:
                if (!isMake(of) || v < 0 || v > 9) return -100;
                was = makes.get(of).number;
                makes.get(of).number = v;
                return was;
            case 5:
                if (!isMake(of) || v < -9 || v > 9) return -100;
                was = makes.get(of).run;
                makes.get(of).run = v;
                return was;
            case 6:
                if (!isMake(of) || v < 0 || v >= 1 << 20) return -100;
                was = makes.get(of).stock;
                makes.get(of).stock = v;
                return was;
            default:
                return -100;
        }
    }

    int make(int kind, int what, int stock) {
        if (kind < 0 || kind > 5 || what < 0 || what > 918 || what % 100 > 18 || stock < 0 || stock >= 1 << 20) return -2;
        if (makes.size() == 5) return -4;
        makes.add(new Make(kind, what / 100, what % 100 - 9, stock));
        return makes.size() - 1;
    }

    int swollen(int side) {
        int swells = texts.get(rule).parts.get(0).applyAsInt(new int[] {0, 0, 0, 0, side, hour});
        swells = swells < 0 ? 0 : swells > 20 ? 20 : swells;
        int foot = (side == 0 ? left : right) + swells;
        return foot > 99 ? 99 : foot;
    }

    int told(int of, int what) {
        if (what == 0) return left;
        if (what == 1) return right;
        if (what == 2) return hour;
        if (what == 3 && isFoot(of)) return town[of];
        if (what == 4 && isMake(of)) return makes.get(of).number;
        if (what == 5 && isMake(of)) return makes.get(of).run;
        if (what == 6 && isMake(of)) return makes.get(of).stock;
        if (what == 7 && isMake(of)) return makes.get(of).kind;
        if (what == 8 || what == 9) return swollen(what - 8);
        return -100;
    }

    int fit(int shoe, int foot) {
        if (shoe < 0 || shoe >= 20 * makes.size() || foot < -1 || foot > 99) return -1000;
        return foot == -1 ? makes.get(shoe / 20).inside(shoe % 20) : says(shoe, foot);
    }

    int says(int shoe, int foot) {
        return makes.get(shoe / 20).says(shoe % 20, foot);
    }

    int feed(int letter) {
        if (letter < 0 || letter > 255) return -2;
        if (tape.length() == 160) return -4;
        tape.append((char) letter);
        return tape.length();
    }

    int text() {
        if (texts.size() == 6) return -4;
        String all = tape.toString();
        tape.setLength(0);
        try {
            texts.add(new Parser(all).whole());
            return texts.size() - 1;
        } catch (Fault f) {
            return -100 - f.place;
        }
    }

    int force(int text) {
        if (text < 0 || text >= texts.size()) return -2;
        int was = rule;
        rule = text;
        return was;
    }

    List<Integer> stock() {
        List<Integer> shoes = new ArrayList<>();
        for (int m = 0; m < makes.size(); m++) {
            for (int z = 0; z < 20; z++) {
                if ((makes.get(m).stock & 1 << z) != 0) shoes.add(20 * m + z);
            }
        }
        return shoes;
    }

    static int length(Object sheet) {
        return java.lang.reflect.Array.getLength(sheet);
    }

    static int item(Object sheet, int i) {
        return java.lang.reflect.Array.getInt(sheet, i);
    }

    int rows(int sheet) {
        Object s = sheets[sheet];
        if (s == null) return -11;
        if (length(s) % 2 == 1) return -2;
        for (int i = 0; i < length(s); i += 2) {
            int shoe = item(s, i), said = item(s, i + 1);
            if (shoe < 0 || shoe >= 20 * makes.size() || said < -2 || said > 2) return -2;
        }
        return 0;
    }

    List<Integer> can(int sheet) {
        Object s = sheets[sheet];
        List<Integer> feet = new ArrayList<>();
        for (int foot = 0; foot < 100; foot++) {
            boolean all = true;
            for (int i = 0; i < length(s); i += 2) all &= says(item(s, i), foot) == item(s, i + 1);
            if (all) feet.add(foot);
        }
        return feet;
    }

    int canBe(int sheet, int what) {
        if (sheet < 0 || sheet > 3 || what < 0 || what > 2) return -2;
        if (rows(sheet) != 0) return rows(sheet);
        List<Integer> feet = can(sheet);
        if (what == 0) return feet.size();
        if (feet.isEmpty()) return -1;
        return what == 1 ? feet.get(0) : feet.get(feet.size() - 1);
    }

    /** The shoe and how many say the same. */
    int[] next(List<Integer> feet) {
        int[] best = {-1, -1};
        if (feet.isEmpty()) return best;
        for (int shoe : stock()) {
            int[] counts = new int[5];
            for (int foot : feet) counts[says(shoe, foot) + 2]++;
            int most = 0;
            for (int c : counts) most = Math.max(most, c);
            if (best[0] == -1 || most < best[1]) best = new int[] {shoe, most};
        }
        return best;
    }

    int fetch(int sheet, int what) {
        if (sheet < 0 || sheet > 3 || what < 0 || what > 1) return -2;
        if (rows(sheet) != 0) return rows(sheet);
        return next(can(sheet))[what];
    }

    int goes(int foot) {
        if (!isFoot(foot)) return -2;
        List<Integer> feet = new ArrayList<>();
        for (int f = 0; f < 100; f++) feet.add(f);
        for (int n = 1; n <= 20; n++) {
            boolean any = false;
            for (int shoe : stock()) for (int f : feet) any |= says(shoe, f) == 0;
            if (!any) return -1;
            int shoe = next(feet)[0];
            int said = says(shoe, foot);
            if (said == 0) return n;
            Predicate<Integer> unlike = f -> says(shoe, f) != said;
            feet.removeIf(unlike);
        }
        return -1;
    }

    int worst(int what) {
        if (what < 0 || what > 1) return -2;
        int most = -1, none = 0;
        for (int foot = 0; foot < 100; foot++) {
            int g = goes(foot);
            if (g == -1) none++;
            most = Math.max(most, g);
        }
        return what == 0 ? most : none;
    }

    int rubs(int shoe, int side) {
        Make m = makes.get(shoe / 20);
        int o = m.inside(shoe % 20) - swollen(side);
        int v = texts.get(rule).parts.get(1).applyAsInt(
            new int[] {shoe % 20, shoe / 20, o < 0 ? -o : o, m.number, side, hour});
        return v < 0 ? 0 : v > 99 ? 99 : v;
    }

    int price(int shoe) {
        int v = texts.get(rule).parts.get(2).applyAsInt(
            new int[] {shoe % 20, shoe / 20, 0, makes.get(shoe / 20).number, 0, hour});
        return v < 0 ? 0 : v > 99 ? 99 : v;
    }

    int least(ToIntFunction<Integer> measure) {
        int best = -1;
        for (int shoe : stock()) {
            if (best == -1 || measure.applyAsInt(shoe) < measure.applyAsInt(best)) best = shoe;
        }
        return best;
    }

    int pair(int what) {
        if (what < 0 || what > 5) return -100000;
        if (stock().isEmpty()) return what == 5 ? 0 : -1;
        int pair = least(s -> rubs(s, 0) + rubs(s, 1));
        int l = least(s -> rubs(s, 0)), r = least(s -> rubs(s, 1));
        int pairRubs = rubs(pair, 0) + rubs(pair, 1), unlikeRubs = rubs(l, 0) + rubs(r, 1);
        switch (what) {
            case 0: return pair;
            case 1: return pairRubs;
            case 2: return l;
            case 3: return r;
            case 4: return unlikeRubs;
            default: return pairRubs - unlikeRubs + (price(pair) - (price(l) + price(r)) / 2);
        }
    }

    static int servedBy(int[] people, List<Integer> shoes, Plain p) {
        int served = 0;
        for (int foot = 0; foot < 100; foot++) {
            boolean any = false;
            for (int shoe : shoes) any |= p.says(shoe, foot) == 0;
            if (any) served += people[foot];
        }
        return served;
    }

    int served(int make) {
        if (make != -1 && !isMake(make)) return -2;
        List<Integer> shoes = stock();
        if (make != -1) shoes.removeIf(s -> s / 20 != make);
        return servedBy(town, shoes, this);
    }

    int order(int make, int n, int what) {
        if (!isMake(make) || n < 0 || n > 3 || what < 0 || what > 1) return -2;
        int best = -1, bestServed = -1;
        // Greater bits than three of twenty are passed over quickly: sets are made from their sizes.
        for (int c = n > 2 ? 2 : -1; c < (n > 2 ? 20 : 0); c++) {
            for (int b = n > 1 ? 1 : -1; b < (n > 1 ? n > 2 ? c : 20 : 0); b++) {
                for (int a = n > 0 ? 0 : -1; a < (n > 0 ? n > 1 ? b : 20 : 0); a++) {
                    List<Integer> shoes = new ArrayList<>();
                    int bits = 0;
                    for (int z : new int[] {a, b, c}) {
                        if (z >= 0) {
                            shoes.add(20 * make + z);
                            bits |= 1 << z;
                        }
                    }
                    int served = servedBy(town, shoes, this);
                    if (served > bestServed || served == bestServed && bits < best) {
                        best = bits;
                        bestServed = served;
                    }
                }
            }
        }
        return what == 0 ? best : bestServed;
    }

    int missing(int what) {
        if (what < 0 || what > 1) return -2;
        int all = 0, worst = -1;
        for (int foot = 0; foot < 100; foot++) {
            boolean any = false;
            for (int shoe : stock()) any |= says(shoe, foot) == 0;
            if (!any && town[foot] > 0) {
                all += town[foot];
                if (worst == -1 || town[foot] > town[worst]) worst = foot;
            }
        }
        return what == 0 ? all : worst;
    }

    int lies(int make) {
        if (!isMake(make)) return -2;
        int bits = 0;
        for (int shoe : stock()) {
            if (shoe / 20 == make && servedBy(town, List.of(shoe), this) == 0) bits |= 1 << shoe % 20;
        }
        return bits;
    }

    int runs(int sheet, int make, int foot, int what) {
        if (sheet < 0 || sheet > 3 || !isMake(make) || !isFoot(foot) || what < 0 || what > 1) return -2;
        if (rows(sheet) != 0) return rows(sheet);
        Make m = makes.get(make);
        Object s = sheets[sheet];
        int bits = 0;
        for (int b = 0; b < (what == 0 ? 19 : 6); b++) {
            Make other = what == 0 ? new Make(m.kind, m.number, b - 9, 0) : new Make(b, m.number, m.run, 0);
            boolean all = true;
            for (int i = 0; i < length(s); i += 2) {
                if (item(s, i) / 20 == make) all &= other.says(item(s, i) % 20, foot) == item(s, i + 1);
            }
            if (all) bits |= 1 << b;
        }
        return bits;
    }

    int film(int sheet, int foot, int n) {
        if (sheet < 0 || sheet > 3 || !isFoot(foot) || n < 0 || n > 20) return -2;
        List<Integer> shoes = stock();
        int k = Math.min(n, shoes.size());
        byte[] b = new byte[2 * k];
        for (int i = 0; i < k; i++) {
            b[2 * i] = (byte) (int) shoes.get(i);
            b[2 * i + 1] = (byte) says(shoes.get(i), foot);
        }
        sheets[sheet] = b;
        return k;
    }

    static int[] draw(int seed) {
        int[] people = new int[100];
        int z = seed;
        for (int foot = 0; foot < 100; foot++) {
            z = z * 1103515245 + 12345;
            people[foot] = (z >>> 9) % 10;
        }
        return people;
    }

    int drawn(int seed) {
        return servedBy(draw(seed), stock(), this);
    }

    long chance(int seed, int n, int part) {
        if (n < 1 || n > 20 || part < 0 || part > 1) return -4611686018427387904L;
        int good = 0;
        for (int i = 0; i < n; i++) {
            int all = 0;
            for (int p : draw(seed + i)) all += p;
            if (drawn(seed + i) * 2 >= all) good++;
        }
        int g = java.math.BigInteger.valueOf(good).gcd(java.math.BigInteger.valueOf(n)).intValue();
        return part == 0 ? good / g : n / g;
    }

    int image() {
        kept = new Plain();
        takeTo(this, kept);
        return makes.size();
    }

    int back() {
        if (kept == null) return -3;
        takeTo(kept, this);
        return makes.size();
    }

    private static void takeTo(Plain from, Plain to) {
        to.left = from.left;
        to.right = from.right;
        to.hour = from.hour;
        to.rule = from.rule;
        to.town = from.town.clone();
        to.makes = new ArrayList<>();
        for (Make m : from.makes) to.makes.add(new Make(m.kind, m.number, m.run, m.stock));
    }

    int count(int what) {
        int all = 0;
        for (int p : town) all += p;
        switch (what) {
            case 0: return makes.size();
            case 1: return stock().size();
            case 2: return all;
            case 3: return texts.size();
            case 4: return tape.length();
            case 5: return rule;
            default: return -2;
        }
    }

    int sheet(int sheet, int sort, int n) {
        if (sheet < 0 || sheet > 3 || sort < -1 || sort > 2) return -2;
        if (sort == -1) {
            sheets[sheet] = null;
            return 1;
        }
        if (n > 40) return -2;
        if (n < 0) return -14;
        sheets[sheet] = sort == 0 ? new byte[n] : sort == 1 ? new short[n] : new int[n];
        return 1;
    }

    int cell(int sheet, int i, int v) {
        if (sheet < 0 || sheet > 3) return -2;
        Object s = sheets[sheet];
        if (s == null) return -11;
        if (i < 0 || i >= length(s)) return -12;
        if (s instanceof byte[]) ((byte[]) s)[i] = (byte) v;
        else if (s instanceof short[]) ((short[]) s)[i] = (short) v;
        else ((int[]) s)[i] = v;
        return 1;
    }

    int copy(int sheet, int i, int other, int j, int n) {
        if (sheet < 0 || sheet > 3 || other < 0 || other > 3) return -2;
        Object s = sheets[sheet], o = sheets[other];
        if (s == null || o == null) return -11;
        if (s.getClass() != o.getClass()) return -13;
        try {
            System.arraycopy(s, i, o, j, n);
        } catch (IndexOutOfBoundsException e) {
            return -12;
        }
        return n;
    }

    int town(int sheet, int sort, int from, int n) {
        if (sheet < 0 || sheet > 3 || sort < 0 || sort > 2 || n < 0 || n > 20) return -2;
        Object s = sheets[sheet];
        Class<?>[] sorts = {byte[].class, short[].class, int[].class};
        if (s != null && s.getClass() != sorts[sort]) return -13;
        if (s == null) return -11;
        int so = 0;
        for (long k = 0; k < n; k++) {
            long at = from + 2 * k;
            if (at < 0 || at + 1 >= length(s)) return -12;
            int foot = item(s, (int) at), people = item(s, (int) at + 1);
            if (isFoot(foot) && people >= 0 && people <= 9) {
                town[foot] = people;
                so++;
            }
        }
        return so;
    }

    int taken(int make, int k) {
        if (k < 0 || k > 5) return -2;
        if (!isMake(make)) return -11;
        int[][] under = {{0, 1, 2, 3, 4, 5}, {1, 3}, {2, 4}, {3}, {4}, {5}};
        for (int kind : under[k]) {
            if (kind == makes.get(make).kind) return makes.get(make).number;
        }
        return -13;
    }
}
