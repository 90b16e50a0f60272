import java.util.Random;

/** Drawn runs of calls on HalfASize and on Plain: every answer must be the same. The seeds are fixed. */
public final class AgainstPlainTest {
    private static final int RUNS = 500;
    private static final String[] PIECES = {
        "swells", "rubs", "price", "or", "and", "not", "size", "make", "apart", "number", "foot", "hour",
        "(", ")", ";", "+", "-", "*", "<", "=", "0", "1", "7", "12", "9999", "0003", "12345", "x", "hours", "A", "\t", "\u00e9",
    };

    private final Check check = new Check("AgainstPlainTest");
    private final Random random = new Random(20261118);
    private HalfASize x;
    private Plain p;
    private int calls;

    public static void main(String[] args) {
        AgainstPlainTest test = new AgainstPlainTest();
        for (int run = 0; run < RUNS; run++) {
            test.oneRun(run);
        }
        test.check.end();
    }

    private void oneRun(int run) {
        x = new HalfASize();
        p = new Plain();
        calls = 0;
        int dear = 0;
        if (run % 4 != 0) {
            stockUp();
        }
        while (calls < 300 && dear < 12) {
            int which = random.nextInt(29);
            dear += which == 11 || which == 14 ? 1 : 0;
            call(run, which);
        }
    }

    private void stockUp() {
        int makes = random.nextInt(6);
        for (int i = 0; i < makes; i++) {
            same(0, "make", args(random.nextInt(6), 100 * random.nextInt(10) + random.nextInt(19), stock()));
        }
        int people = random.nextInt(20);
        for (int i = 0; i < people; i++) {
            same(0, "set", args(3, random.nextInt(100), random.nextInt(10)));
        }
    }

    private int stock() {
        switch (random.nextInt(4)) {
            case 0: return 0;
            case 1: return 1 << random.nextInt(20);
            case 2: return random.nextInt(1 << 20);
            default: return random.nextInt(1 << 20) & random.nextInt(1 << 20);
        }
    }

    private static int[] args(int... a) {
        return a;
    }

    /** Mostly one of least .. greatest, at times just beside them or far off. */
    private int some(int least, int greatest) {
        switch (random.nextInt(40)) {
            case 0: return least - 1;
            case 1: return greatest + 1;
            case 2: return random.nextBoolean() ? Integer.MIN_VALUE : Integer.MAX_VALUE;
            case 3: return random.nextInt();
            default: return least + random.nextInt(greatest - least + 1);
        }
    }

    private int someMake() {
        return some(0, Math.max(0, p.makes.size() - 1));
    }

    private int someShoe() {
        return some(0, Math.max(0, 20 * p.makes.size() - 1));
    }

    private void call(int run, int which) {
        switch (which) {
            case 0: setSome(run); break;
            case 1: same(run, "make", args(some(0, 5), 100 * some(0, 9) + some(0, 18), random.nextInt(9) == 0 ? some(0, 1 << 20) : stock())); break;
            case 2: same(run, "told", args(random.nextBoolean() ? someMake() : some(0, 99), some(0, 9))); break;
            case 3: same(run, "fit", args(someShoe(), some(-1, 99))); break;
            case 4: same(run, "feed", args(some(0, 255))); break;
            case 5: typeText(run); break;
            case 6: same(run, "force", args(some(0, p.texts.size() - 1))); break;
            case 7: same(run, "canBe", args(some(0, 3), some(0, 2))); break;
            case 8: same(run, "fetch", args(some(0, 3), some(0, 1))); break;
            case 9: case 10: same(run, "goes", args(some(0, 99))); break;
            case 11: same(run, "worst", args(some(0, 1))); break;
            case 12: same(run, "pair", args(some(0, 5))); break;
            case 13: same(run, "served", args(some(-1, Math.max(0, p.makes.size() - 1)))); break;
            case 14: same(run, "order", args(someMake(), some(0, 3), some(0, 1))); break;
            case 15: same(run, "missing", args(some(0, 1))); break;
            case 16: same(run, "lies", args(someMake())); break;
            case 17: case 18: rows(run); break;
            case 19: same(run, "film", args(some(0, 3), some(0, 99), some(0, 20))); break;
            case 20: same(run, "drawn", args(random.nextInt())); break;
            case 21: same(run, "chance", args(some(0, 1000), some(1, 20), some(0, 1))); break;
            case 22: same(run, random.nextInt(3) == 0 ? "image" : "back", args()); break;
            case 23: same(run, "count", args(some(0, 5))); break;
            case 24: same(run, "sheet", args(some(0, 3), some(-1, 2), some(0, 40))); break;
            case 25: same(run, "cell", args(some(0, 3), some(0, 39), random.nextInt(3) == 0 ? random.nextInt() : some(0, 99))); break;
            case 26: same(run, "copy", args(some(0, 3), some(0, 20), some(0, 3), some(0, 20), some(0, 20))); break;
            case 27: townRows(run); break;
            default: same(run, "taken", args(someMake(), some(0, 5))); break;
        }
    }

    private void setSome(int run) {
        int what = some(0, 6);
        int of = what == 3 ? some(0, 99) : someMake();
        int[] least = {0, 0, 0, 0, 0, -9, 0};
        int[] greatest = {99, 99, 23, 9, 9, 9, (1 << 20) - 1};
        boolean is = what >= 0 && what <= 6;
        same(run, "set", args(what, of, is ? some(least[what], greatest[what]) : 0));
    }

    /** A sheet of rows that could have been tried on (film, with some cells changed), and what is read from it. */
    private void rows(int run) {
        int sheet = random.nextInt(4);
        int foot = random.nextInt(100);
        int n = random.nextInt(5);
        same(run, "sheet", args(sheet, random.nextInt(3), 2 * n));
        for (int i = 0; i < n && !p.makes.isEmpty(); i++) {
            int shoe = random.nextInt(20 * p.makes.size());
            same(run, "cell", args(sheet, 2 * i, shoe));
            same(run, "cell", args(sheet, 2 * i + 1, random.nextInt(6) == 0 ? some(-2, 2) : p.says(shoe, foot)));
        }
        for (int what = 0; what < 3; what++) {
            same(run, "canBe", args(sheet, what));
        }
        same(run, "fetch", args(sheet, 0));
        same(run, "fetch", args(sheet, 1));
        int make = someMake();
        same(run, "runs", args(sheet, make, random.nextInt(4) == 0 ? some(0, 99) : foot, 0));
        same(run, "runs", args(sheet, make, random.nextInt(4) == 0 ? some(0, 99) : foot, some(0, 1)));
    }

    private void townRows(int run) {
        int sheet = random.nextInt(4);
        int sort = random.nextInt(3);
        int n = random.nextInt(10);
        same(run, "sheet", args(sheet, sort, n));
        for (int i = 0; i < n; i++) {
            same(run, "cell", args(sheet, i, random.nextBoolean() ? some(0, 99) : some(0, 9)));
        }
        same(run, "town", args(some(sheet, sheet), random.nextInt(5) == 0 ? some(0, 2) : sort, some(0, 4), some(0, 4)));
        same(run, "count", args(2));
    }

    private void typeText(int run) {
        String letters = random.nextInt(3) == 0 ? soup() : spoilt(goodText());
        for (int i = 0; i < letters.length(); i++) {
            same(run, "feed", args(letters.charAt(i)));
        }
        calls -= letters.length();
        same(run, "text", args());
        same(run, "force", args(p.texts.size() - 1));
        for (int what = 0; what < 6; what++) {
            same(run, "pair", args(what));
        }
        same(run, "told", args(0, 8));
        same(run, "told", args(0, 9));
    }

    private String soup() {
        StringBuilder s = new StringBuilder(random.nextBoolean() ? "swells " : "");
        int n = random.nextInt(12);
        for (int i = 0; i < n; i++) {
            s.append(PIECES[random.nextInt(PIECES.length)]).append(random.nextBoolean() ? " " : "");
        }
        return s.toString();
    }

    private String goodText() {
        return "swells " + expression(2) + ";\nrubs " + expression(2) + " ; price " + expression(1) + ";";
    }

    private String expression(int deep) {
        String space = random.nextBoolean() ? " " : "";
        switch (deep <= 0 ? random.nextInt(3) : random.nextInt(12)) {
            case 0: return Integer.toString(random.nextInt(random.nextBoolean() ? 30 : 10000));
            case 1: case 2: return Plain.NAMES[random.nextInt(6)];
            case 3: return "(" + space + expression(deep - 1) + ")";
            case 4: return "-" + expression(deep - 1);
            case 5: return "not " + expression(deep - 1);
            case 6: return expression(deep - 1) + space + "+" + expression(deep - 1);
            case 7: return expression(deep - 1) + "-" + space + expression(deep - 1);
            case 8: return expression(deep - 1) + "*" + expression(deep - 1);
            case 9: return expression(deep - 1) + " < " + expression(deep - 1);
            case 10: return expression(deep - 1) + " = " + expression(deep - 1);
            default: return expression(deep - 1) + (random.nextBoolean() ? " or " : " and ") + expression(deep - 1);
        }
    }

    /** At times the text with one letter more, less or another, or with much opened. */
    private String spoilt(String text) {
        int at = random.nextInt(text.length());
        switch (random.nextInt(8)) {
            case 0: return text.substring(0, at) + text.substring(at + 1);
            case 1: return text.substring(0, at) + PIECES[random.nextInt(PIECES.length)] + text.substring(at);
            case 2: return text.substring(0, at);
            case 3: return "swells " + opened() + "hour;rubs " + opened() + "apart;price size;";
            default: return text;
        }
    }

    private String opened() {
        StringBuilder s = new StringBuilder();
        StringBuilder closing = new StringBuilder();
        int n = random.nextInt(7);
        for (int i = 0; i < n; i++) {
            switch (random.nextInt(3)) {
                case 0: s.append("not "); break;
                case 1: s.append("- "); break;
                default:
                    s.append("( ");
                    closing.append(')');
            }
        }
        return s.append("1").append(closing).append(random.nextBoolean() ? " + " : " or ").toString();
    }

    private void same(int run, String name, int[] a) {
        calls++;
        StringBuilder call = new StringBuilder("run " + run + ": " + name + "(");
        for (int i = 0; i < a.length; i++) {
            call.append(i == 0 ? "" : ", ").append(a[i]);
        }
        check.due(call.append(")").toString(), Calls.answer(p, name, a), Calls.answer(x, name, a));
    }
}
