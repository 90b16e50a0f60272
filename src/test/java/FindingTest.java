/** Promises 9 to 12: canBe, fetch, goes, worst. */
public final class FindingTest {
    private static final Check CHECK = new Check("FindingTest");

    public static void main(String[] args) {
        whichFeet();
        fetching();
        wrongSheets();
        going();
        alikeForEver();
        deep();
        CHECK.end();
    }

    private static void whichFeet() {
        HalfASize x = new HalfASize();
        // Size 8 is 40 inside in both; nothing is in stock.
        x.make(0, 9, 0);
        x.make(5, 9, 0);
        canBe(x, 100, 0, 99);
        canBe(x, 32, 0, 31, 8, 2);
        canBe(x, 4, 32, 35, 8, 1);
        canBe(x, 6, 36, 41, 8, 0);
        canBe(x, 3, 42, 44, 8, -1);
        canBe(x, 55, 45, 99, 8, -2);
        canBe(x, 10, 32, 41, 28, 0);
        canBe(x, 0, -1, -1, 28, 1);
        canBe(x, 4, 37, 40, 8, 0, 9, 1);
        canBe(x, 4, 37, 40, 8, 0, 9, 1, 28, 0, 8, 0);
        canBe(x, 0, -1, -1, 8, 0, 9, -1);
        // Size 0 says -1 of 2 .. 4 alone, size 2 says 2 of 0 and 1.
        canBe(x, 3, 2, 4, 0, -1);
        canBe(x, 2, 0, 1, 2, 2);
        canBe(x, 0, -1, -1, 0, -1, 2, 2, 0, -1);
        // Soft with number 9, run 1: 41 inside, and 3; stretched with number 4, run 0: 42, and 1; pointed: 37 - 2.
        x.make(2, 910, 0);
        x.make(4, 409, 0);
        x.make(3, 209, 0);
        canBe(x, 6, 40, 45, 48, 0);
        canBe(x, 3, 46, 48, 48, -1);
        canBe(x, 51, 49, 99, 48, -2);
        canBe(x, 4, 36, 39, 48, 1);
        canBe(x, 36, 0, 35, 48, 2);
        canBe(x, 6, 39, 44, 68, 0);
        canBe(x, 4, 27, 30, 88, 0);
        canBe(x, 27, 0, 26, 88, 1);
        canBe(x, 9, 31, 39, 88, -1);
        canBe(x, 0, -1, -1, 88, 2);
        canBe(x, 3, 42, 44, 28, -1, 28, -1);
    }

    private static void canBe(HalfASize x, int many, int least, int greatest, int... rows) {
        for (int sort = 0; sort < 3; sort++) {
            Check.fill(x, 1, sort, rows);
            CHECK.due("canBe, how many", many, x.canBe(1, 0));
            CHECK.due("canBe, the least", least, x.canBe(1, 1));
            CHECK.due("canBe, the greatest", greatest, x.canBe(1, 2));
        }
    }

    private static void fetching() {
        HalfASize x = new HalfASize();
        x.sheet(0, 0, 0);
        CHECK.due("no shoe", -1, x.fetch(0, 0));
        CHECK.due("no shoe", -1, x.fetch(0, 1));
        x.make(0, 9, 1 << 8);
        CHECK.due("the only one", 8, x.fetch(0, 0));
        CHECK.due("it says -2 of 45 .. 99", 55, x.fetch(0, 1));
        x.set(6, 0, 1 << 8 | 1 << 10 | 1 << 11);
        CHECK.due("50 inside", 10, x.fetch(0, 0));
        CHECK.due("it says -2 of 55 .. 99", 45, x.fetch(0, 1));
        x.make(0, 9, 1 << 10);
        CHECK.due("of like ones the first", 10, x.fetch(0, 0));
        x.set(5, 0, 1);
        CHECK.due("51 inside: 44; 50: 45", 10, x.fetch(0, 0));
        CHECK.due("51 inside: 44; 50: 45", 44, x.fetch(0, 1));
        x.set(5, 0, -1);
        CHECK.due("49 and 54 inside: 46; 50: 45", 30, x.fetch(0, 0));
        Check.fill(x, 0, 0, 30, 0, 30, 2);
        CHECK.due("none can be", -1, x.fetch(0, 0));
        CHECK.due("none can be", -1, x.fetch(0, 1));
        Check.fill(x, 0, 0, 30, 0);
        CHECK.due("46 .. 51: 49 inside says 0, -1 of 5, 1", 11, x.fetch(0, 0));
        CHECK.due("54 inside says 1, 0 of 4, 2", 4, x.fetch(0, 1));
        Check.fill(x, 0, 2, 9, 0);
        CHECK.due("40 .. 45, tried by one that is not in stock", 8, x.fetch(0, 0));
        CHECK.due("39 inside says 0, -1, -2 of 1, 3, 2", 3, x.fetch(0, 1));
    }

    private static void wrongSheets() {
        HalfASize x = new HalfASize();
        x.make(0, 9, 1);
        for (int call = 0; call < 2; call++) {
            CHECK.due("sheet -1", -2, read(x, call, -1, 0));
            CHECK.due("sheet 4", -2, read(x, call, 4, 0));
            CHECK.due("sheet MIN", -2, read(x, call, Integer.MIN_VALUE, 0));
            CHECK.due("what -1, ahead of a missing sheet", -2, read(x, call, 3, -1));
            CHECK.due("what beyond", -2, read(x, call, 3, call == 0 ? 3 : 2));
            CHECK.due("a missing sheet", -11, read(x, call, 3, 0));
            int[][] wrong = {{0}, {0, 0, 0}, {20, 0}, {-1, 0}, {0, 3}, {0, -3}, {0, 0, 100, 0}, {0, 0, 0, 9}, {19, 2, 20, 2}};
            for (int[] rows : wrong) {
                Check.fill(x, 2, 1, rows);
                CHECK.due("rows as " + rows[0] + " ..", -2, read(x, call, 2, 0));
            }
            Check.fill(x, 2, 0, 200, 0);
            CHECK.due("200 is -56 as a byte", -2, read(x, call, 2, 0));
            Check.fill(x, 2, 0, 256, 256 + 254);
            CHECK.due("0, -2 as bytes", call == 0 ? 95 : 0, read(x, call, 2, 0));
        }
    }

    private static int read(HalfASize x, int call, int sheet, int what) {
        return call == 0 ? x.canBe(sheet, what) : x.fetch(sheet, what);
    }

    private static void going() {
        HalfASize x = new HalfASize();
        CHECK.due("no shoe", -1, x.goes(40));
        CHECK.due("no shoe, the most", -1, x.worst(0));
        CHECK.due("no shoe, without", 100, x.worst(1));
        x.make(0, 9, 1 << 8 | 1 << 10);
        CHECK.due("goes(-1)", -2, x.goes(-1));
        CHECK.due("goes(100)", -2, x.goes(100));
        CHECK.due("worst(-1)", -2, x.worst(-1));
        CHECK.due("worst(2)", -2, x.worst(2));
        // 50 inside first (46 .. 51), then 40 inside (36 .. 41) for the small feet.
        for (int foot = 0; foot < 100; foot++) {
            int due = foot >= 46 && foot <= 51 ? 1 : foot >= 36 && foot <= 41 ? 2 : -1;
            CHECK.due("goes(" + foot + ")", due, x.goes(foot));
        }
        CHECK.due("the most", 2, x.worst(0));
        CHECK.due("without", 88, x.worst(1));
        x.set(2, 0, 20);
        CHECK.due("the hour does not matter", 88, x.worst(1));
    }

    /** 45 inside comes ahead of 40 inside; of 37 .. 40 both say one thing each, so the first is fetched for ever. */
    private static void alikeForEver() {
        HalfASize x = new HalfASize();
        x.make(0, 14, 1 << 8);
        x.make(0, 9, 1 << 8);
        for (int foot = 0; foot < 100; foot++) {
            int due = foot >= 41 && foot <= 46 ? 1 : foot == 36 ? 2 : -1;
            CHECK.due("goes(" + foot + ")", due, x.goes(foot));
        }
        CHECK.due("the most", 2, x.worst(0));
        CHECK.due("without", 93, x.worst(1));
    }

    /** One kind with every size: each foot that has goes comes to them by halving. */
    private static void deep() {
        HalfASize x = new HalfASize();
        x.make(0, 9, 1048575);
        Plain p = new Plain();
        p.make(0, 9, 1048575);
        int most = -1;
        for (int foot = 0; foot < 100; foot++) {
            CHECK.due("goes(" + foot + ")", p.goes(foot), x.goes(foot));
            most = Math.max(most, x.goes(foot));
        }
        CHECK.due("the most", most, x.worst(0));
        CHECK.due("10 is fetched first", 1, x.goes(50));
    }
}
