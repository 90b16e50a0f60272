/** Promises 18 to 24: runs, film, drawn, chance, image, back, count. */
public final class BoxesTest {
    private static final Check CHECK = new Check("BoxesTest");

    public static void main(String[] args) {
        running();
        runningWrongly();
        filming();
        drawing();
        chances();
        layingBack();
        counting();
        CHECK.end();
    }

    private static void running() {
        HalfASize x = new HalfASize();
        x.make(0, 9, 0);
        x.make(3, 612, 0);
        Check.fill(x, 0, 0, 8, 0);
        CHECK.due("-1 .. 4", 0x3F00, x.runs(0, 0, 40, 0));
        CHECK.due("all but pointed", 55, x.runs(0, 0, 40, 1));
        CHECK.due("a make without rows", 524287, x.runs(0, 1, 40, 0));
        CHECK.due("a make without rows", 63, x.runs(0, 1, 40, 1));
        Check.fill(x, 0, 2, 8, 0, 9, 1, 28, 2);
        CHECK.due("0 .. 3", 0x1E00, x.runs(0, 0, 40, 0));
        CHECK.due("make, narrow, soft, stretched", 23, x.runs(0, 0, 40, 1));
        CHECK.due("pointed, 31 and run inside, says no 2", 0, x.runs(0, 1, 10, 0));
        CHECK.due("narrow 37, stretched 45, clog 43, make and soft 43 inside", 55, x.runs(0, 1, 10, 1));
        Check.fill(x, 0, 1, 28, 0);
        CHECK.due("on 20, 31 and run being 25 .. 28", 1 << 3 | 1 << 4 | 1 << 5 | 1 << 6, x.runs(0, 1, 20, 0));
        CHECK.due("on 36: narrow is 37, and a clog of 43 says 0, too", 2 | 32, x.runs(0, 1, 36, 1));
        CHECK.due("make 43, soft 43 and 2, stretched 45 and 2, on 41", 1 | 4 | 32, x.runs(0, 1, 41, 1));
        Check.fill(x, 0, 1, 8, 0, 8, 1);
        CHECK.due("two that can't both be", 0, x.runs(0, 0, 40, 0));
        CHECK.due("two that can't both be", 0, x.runs(0, 0, 40, 1));
        x.sheet(0, 0, 0);
        CHECK.due("no rows", 524287, x.runs(0, 0, 0, 0));
        CHECK.due("no rows", 63, x.runs(0, 0, 99, 1));
        CHECK.due("the make itself stays", 0, x.told(0, 5));
        CHECK.due("the make itself stays", 3, x.told(1, 7));
    }

    private static void runningWrongly() {
        HalfASize x = new HalfASize();
        Check.fill(x, 0, 0, 0, 0);
        CHECK.due("no make", -2, x.runs(0, 0, 0, 0));
        x.make(0, 9, 0);
        int[][] wrong = {
            {-1, 0, 0, 0}, {4, 0, 0, 0}, {3, -1, 0, 0}, {3, 1, 0, 0}, {3, 0, -1, 0}, {3, 0, 100, 0}, {3, 0, 0, -1}, {3, 0, 0, 2},
        };
        for (int[] w : wrong) {
            CHECK.due("runs(" + w[0] + ", " + w[1] + ", " + w[2] + ", " + w[3] + ")", -2, x.runs(w[0], w[1], w[2], w[3]));
        }
        CHECK.due("a missing sheet", -11, x.runs(3, 0, 0, 0));
        int[][] rows = {{0}, {20, 0}, {-1, 0}, {0, 3}, {0, -3}, {0, 0, 0}, {0, 0, 20, 0}};
        for (int[] r : rows) {
            Check.fill(x, 2, 1, r);
            CHECK.due("rows as " + r[0] + " ..", -2, x.runs(2, 0, 0, 0));
        }
    }

    private static void filming() {
        HalfASize x = new HalfASize();
        x.make(0, 9, 1 << 7 | 1 << 8 | 1 << 10);
        x.make(5, 9, 1 << 19);
        x.make(1, 9, 1048575);
        CHECK.due("film(-1, ..)", -2, x.film(-1, 0, 0));
        CHECK.due("film(4, ..)", -2, x.film(4, 0, 0));
        CHECK.due("film(.., -1, ..)", -2, x.film(1, -1, 0));
        CHECK.due("film(.., 100, ..)", -2, x.film(1, 100, 0));
        CHECK.due("film(.., .., -1)", -2, x.film(1, 0, -1));
        CHECK.due("film(.., .., 21)", -2, x.film(1, 0, 21));
        CHECK.due("the sheet stays missing", -11, x.canBe(1, 0));
        CHECK.due("three", 3, x.film(1, 38, 3));
        // As bytes, six of them: 35 says -1, 40 says 0, 50 says 2 of 38.
        x.sheet(2, 0, 6);
        CHECK.due("they are bytes", 6, x.copy(1, 0, 2, 0, 6));
        CHECK.due("just six", -12, x.cell(1, 6, 0));
        int[] due = {7, -1, 8, 0, 10, 2};
        items(x, 1, due);
        CHECK.due("no rows", 0, x.film(1, 38, 0));
        CHECK.due("an empty sheet", 100, x.canBe(1, 0));
        CHECK.due("an empty sheet", -12, x.cell(1, 0, 0));
        CHECK.due("twenty", 20, x.film(1, 99, 20));
        CHECK.due("forty cells", 1, x.cell(1, 39, -2));
        CHECK.due("forty cells", -12, x.cell(1, 40, 0));
        x.set(6, 2, 0);
        CHECK.due("fewer", 4, x.film(1, 38, 20));
        items(x, 1, new int[] {7, -1, 8, 0, 10, 2, 39, 2});
        x.sheet(3, 2, 5);
        CHECK.due("another sort's place", 1, x.film(3, 90, 1));
        items(x, 3, new int[] {7, -2});
        x.set(6, 0, 1 << 4 | 1);
        CHECK.due("size 0", 2, x.film(3, 3, 2));
        items(x, 3, new int[] {0, -1, 4, 2});
        x.set(6, 0, 0);
        x.set(6, 1, 0);
        CHECK.due("no shoe", 0, x.film(3, 90, 1));
        CHECK.due("an empty sheet", -12, x.cell(3, 0, 0));
    }

    private static void items(HalfASize x, int sheet, int[] due) {
        for (int i = 0; i < due.length; i++) {
            CHECK.due("cell " + i, due[i], shown(x, sheet, i));
        }
        CHECK.due("no cell more", -12, x.cell(sheet, due.length, 0));
    }

    /** What a byte sheet's cell holds: a foot that the town takes from it, or an answer that canBe() does. */
    private static int shown(HalfASize x, int sheet, int i) {
        x.sheet(0, 0, 2);
        x.copy(sheet, i, 0, 0, 1);
        x.cell(0, 1, 9);
        for (int foot = 0; foot < 100; foot++) {
            x.set(3, foot, 0);
        }
        if (x.town(0, 0, 0, 1) == 1) {
            for (int foot = 0; foot < 100; foot++) {
                if (x.told(foot, 3) == 9) {
                    x.set(3, foot, 0);
                    return foot;
                }
            }
        }
        for (int said = -2; said < 0; said++) {
            int least = least(x, 8, said);
            x.sheet(0, 0, 2);
            x.cell(0, 0, 8);
            x.copy(sheet, i, 0, 1, 1);
            if (x.canBe(0, 1) == least) {
                return said;
            }
        }
        return -100;
    }

    private static int least(HalfASize x, int shoe, int said) {
        Check.fill(x, 0, 0, shoe, said);
        return x.canBe(0, 1);
    }

    private static void drawing() {
        HalfASize x = new HalfASize();
        CHECK.due("no shoe", 0, x.drawn(5));
        x.make(0, 9, 1048575);
        for (int seed : new int[] {0, 1, -1, 5, Integer.MAX_VALUE, Integer.MIN_VALUE, 123456789}) {
            int z = seed;
            int till96 = 0;
            int from36to41 = 0;
            for (int foot = 0; foot <= 96; foot++) {
                z = z * 1103515245 + 12345;
                till96 += (z >>> 9) % 10;
                from36to41 += foot >= 36 && foot <= 41 ? (z >>> 9) % 10 : 0;
            }
            x.set(6, 0, 1048575);
            CHECK.due("0 .. 96 of " + seed, till96, x.drawn(seed));
            x.set(6, 0, 1 << 8);
            CHECK.due("36 .. 41 of " + seed, from36to41, x.drawn(seed));
        }
        CHECK.due("in thought", 0, x.count(2));
    }

    private static void chances() {
        HalfASize x = new HalfASize();
        chance(x, 3, 20, 0, 1);
        x.make(0, 9, 1048575);
        chance(x, 3, 20, 1, 1);
        chance(x, Integer.MAX_VALUE, 2, 1, 1);
        // Some half of the feet: 0 .. 46 by the first make, 49 .. 54 by the second.
        x.set(6, 0, 1023);
        x.make(0, 12, 1 << 10);
        Plain p = new Plain();
        p.make(0, 9, 1023);
        p.make(0, 12, 1 << 10);
        int well = 0;
        for (int seed = 10; seed < 30; seed++) {
            int all = 0;
            for (int people : Plain.draw(seed)) {
                all += people;
            }
            int one = 2 * x.drawn(seed) >= all ? 1 : 0;
            well += one;
            chance(x, seed, 1, one, 1);
        }
        CHECK.due("some and not all", 1, well > 0 && well < 20 ? 1 : 0);
        for (int n = 1; n <= 20; n++) {
            chance(x, 10, n, p.chance(10, n, 0), p.chance(10, n, 1));
            chance(x, Integer.MAX_VALUE - 3, n, p.chance(Integer.MAX_VALUE - 3, n, 0), p.chance(Integer.MAX_VALUE - 3, n, 1));
        }
        int[][] wrong = {{0, 0}, {-1, 0}, {21, 0}, {1, -1}, {1, 2}, {Integer.MAX_VALUE, 0}};
        for (int[] w : wrong) {
            CHECK.due("chance(0, " + w[0] + ", " + w[1] + ")", -4611686018427387904L, x.chance(0, w[0], w[1]));
        }
        CHECK.due("in thought", 0, x.count(2));
        HalfASize y = new HalfASize();
        y.make(0, 10, 1023);
        CHECK.due("225 of 450", 225, y.drawn(21));
        chance(y, 21, 1, 1, 1);
    }

    private static void chance(HalfASize x, int seed, int n, long above, long below) {
        CHECK.due("chance(" + seed + ", " + n + ", 0)", above, x.chance(seed, n, 0));
        CHECK.due("chance(" + seed + ", " + n + ", 1)", below, x.chance(seed, n, 1));
    }

    private static void layingBack() {
        HalfASize x = new HalfASize();
        CHECK.due("no image", -3, x.back());
        CHECK.due("no makes", 0, x.image());
        x.make(0, 9, 1);
        CHECK.due("makes that came since go", 0, x.back());
        CHECK.due("makes", 0, x.count(0));
        CHECK.due("a make anew", 0, x.make(4, 511, 6));
        x.set(0, 0, 11);
        x.set(1, 0, 22);
        x.set(2, 0, 3);
        x.set(3, 5, 6);
        Check.read(x, "swells 7;rubs 0;price 0;");
        x.force(1);
        CHECK.due("one make", 1, x.image());
        x.set(0, 0, 1);
        x.set(1, 0, 2);
        x.set(2, 0, 4);
        x.set(3, 5, 1);
        x.set(3, 99, 1);
        x.set(4, 0, 1);
        x.set(5, 0, 1);
        x.set(6, 0, 1);
        x.force(0);
        Check.read(x, "swells 8;rubs 0;price 0;");
        x.force(2);
        x.feed(97);
        Check.fill(x, 0, 0, 1, 0);
        x.make(1, 0, 3);
        x.make(1, 0, 3);
        for (int again = 0; again < 2; again++) {
            CHECK.due("back", 1, x.back());
            int[] due = {11, 22, 3, 0, 5, 2, 6, 4, 18, 29};
            for (int what = 0; what < 10; what++) {
                CHECK.due("what " + what, due[what], x.told(0, what));
            }
            CHECK.due("foot 5", 6, x.told(5, 3));
            CHECK.due("foot 99", 0, x.told(99, 3));
            CHECK.due("makes", 1, x.count(0));
            CHECK.due("shoes", 2, x.count(1));
            CHECK.due("the rule", 1, x.count(5));
            CHECK.due("texts stay", 3, x.count(3));
            CHECK.due("the tape stays", 1, x.count(4));
            CHECK.due("sheets stay", 6, x.canBe(0, 0));
            x.set(0, 0, 77);
            x.set(3, 5, 9);
            x.set(4, 0, 9);
        }
        CHECK.due("another image", 1, x.image());
        x.set(0, 0, 1);
        x.back();
        CHECK.due("left is as in the later image", 77, x.told(0, 0));
    }

    private static void counting() {
        HalfASize x = new HalfASize();
        CHECK.due("count(-1)", -2, x.count(-1));
        CHECK.due("count(6)", -2, x.count(6));
        x.make(0, 9, 1048575);
        x.make(0, 9, 0);
        x.make(0, 9, 1 << 19 | 1);
        x.set(3, 0, 9);
        x.set(3, 99, 8);
        x.set(3, 50, 7);
        x.feed(10);
        x.feed(10);
        CHECK.due("makes", 3, x.count(0));
        CHECK.due("shoes", 22, x.count(1));
        CHECK.due("people", 24, x.count(2));
        CHECK.due("texts", 1, x.count(3));
        CHECK.due("bytes", 2, x.count(4));
        CHECK.due("the rule", 0, x.count(5));
        x.text();
        CHECK.due("bytes", 0, x.count(4));
    }
}
