/** Promises 25 to 29: sheet, cell, copy, town, taken. */
public final class HostTest {
    private static final Check CHECK = new Check("HostTest");

    public static void main(String[] args) {
        sheets();
        cells();
        copies();
        copiesWrongly();
        towns();
        townsWrongly();
        takings();
        CHECK.end();
    }

    private static void sheets() {
        HalfASize x = new HalfASize();
        int[][] wrong = {{-1, 0, 0}, {4, 0, 0}, {0, -2, 0}, {0, 3, 0}, {0, 0, 41}, {0, 2, Integer.MAX_VALUE}, {4, 0, -1}, {0, 3, -1}, {4, -1, 0}};
        for (int[] w : wrong) {
            CHECK.due("sheet(" + w[0] + ", " + w[1] + ", " + w[2] + ")", -2, x.sheet(w[0], w[1], w[2]));
        }
        CHECK.due("below 0", -14, x.sheet(0, 0, -1));
        CHECK.due("below 0", -14, x.sheet(3, 2, Integer.MIN_VALUE));
        CHECK.due("still missing", -11, x.cell(0, 0, 0));
        for (int sheet = 0; sheet < 4; sheet++) {
            for (int sort = 0; sort < 3; sort++) {
                CHECK.due("40", 1, x.sheet(sheet, sort, 40));
                CHECK.due("the last cell", 1, x.cell(sheet, 39, 1));
                CHECK.due("no cell more", -12, x.cell(sheet, 40, 1));
                CHECK.due("none", 1, x.sheet(sheet, sort, 0));
                CHECK.due("no cell", -12, x.cell(sheet, 0, 1));
            }
            CHECK.due("missing, n does not matter", 1, x.sheet(sheet, -1, sheet == 0 ? -1 : 41));
            CHECK.due("missing", -11, x.cell(sheet, 0, 1));
            CHECK.due("missing once more", 1, x.sheet(sheet, -1, 0));
        }
        x.sheet(1, 2, 4);
        x.cell(1, 0, 7);
        x.cell(1, 3, 5);
        CHECK.due("a refusal changes nothing", -14, x.sheet(1, 0, -1));
        CHECK.due("as it was", 1, x.town(1, 2, 0, 1));
        x.sheet(1, 2, 4);
        x.set(3, 0, 3);
        CHECK.due("all 0", 2, x.town(1, 2, 0, 2));
        CHECK.due("nobody has 0 now", 0, x.told(0, 3));
    }

    private static void cells() {
        HalfASize x = new HalfASize();
        CHECK.due("cell(-1, ..)", -2, x.cell(-1, 0, 0));
        CHECK.due("cell(4, ..)", -2, x.cell(4, 0, 0));
        CHECK.due("missing", -11, x.cell(0, -1, 0));
        x.sheet(0, 0, 2);
        CHECK.due("cell(0, -1, ..)", -12, x.cell(0, -1, 0));
        CHECK.due("cell(0, 2, ..)", -12, x.cell(0, 2, 0));
        CHECK.due("cell(0, MIN, ..)", -12, x.cell(0, Integer.MIN_VALUE, 0));
        for (int sort = 0; sort < 3; sort++) {
            kept(x, sort, 44, true);
            kept(x, sort, 256 + 44, sort == 0);
            kept(x, sort, 65536 + 44, sort < 2);
            kept(x, sort, 128, false);
            kept(x, sort, -212, sort == 0);
            kept(x, sort, -65492, sort < 2);
        }
        // Bytes and shorts have a sign: 255 and 65535 are -1, as a shoe says.
        x.make(0, 9, 0);
        for (int sort = 0; sort < 3; sort++) {
            Check.fill(x, 0, sort, 8, sort == 0 ? 255 : sort == 1 ? 65535 : -1);
            CHECK.due("-1 in sort " + sort, 3, x.canBe(0, 0));
        }
    }

    private static void kept(HalfASize x, int sort, int v, boolean isFoot44) {
        Check.fill(x, 0, sort, v, 9);
        x.set(3, 44, 0);
        CHECK.due(v + " in sort " + sort, isFoot44 ? 1 : 0, x.town(0, sort, 0, 1));
        CHECK.due(v + " in sort " + sort, isFoot44 ? 9 : 0, x.told(44, 3));
    }

    private static void copies() {
        HalfASize x = new HalfASize();
        Check.fill(x, 0, 2, 10, 1, 11, 2, 12, 3);
        x.sheet(1, 2, 6);
        CHECK.due("all", 6, x.copy(0, 0, 1, 0, 6));
        town(x, 1, 3, 10, 1, 11, 2, 12, 3);
        CHECK.due("forward over itself", 4, x.copy(0, 0, 0, 2, 4));
        town(x, 0, 3, 10, 1, 10, 1, 11, 2);
        CHECK.due("backward over itself", 4, x.copy(1, 2, 1, 0, 4));
        town(x, 1, 3, 11, 2, 12, 3, 12, 3);
        CHECK.due("some", 2, x.copy(1, 2, 0, 4, 2));
        town(x, 0, 3, 10, 1, 10, 1, 12, 3);
        CHECK.due("none, at the end", 0, x.copy(0, 6, 1, 6, 0));
        x.sheet(2, 2, 0);
        CHECK.due("none of none", 0, x.copy(2, 0, 2, 0, 0));
        CHECK.due("none of none", 0, x.copy(2, 0, 0, 3, 0));
        x.sheet(2, 2, 40);
        CHECK.due("unlike sizes", 6, x.copy(0, 0, 2, 34, 6));
        CHECK.due("unlike sizes", 1, x.town(2, 2, 38, 1));
        CHECK.due("unlike sizes", 3, x.told(12, 3));
    }

    private static void town(HalfASize x, int sheet, int n, int... due) {
        for (int foot = 0; foot < 100; foot++) {
            x.set(3, foot, 0);
        }
        for (int i = 0; i < due.length; i += 2) {
            CHECK.due("row", 1, x.town(sheet, 2, i, 1));
            CHECK.due("row of " + due[i], due[i + 1], x.told(due[i], 3));
            x.set(3, due[i], 0);
        }
        CHECK.due("no row more", -12, x.town(sheet, 2, 2 * n, 1));
    }

    private static void copiesWrongly() {
        HalfASize x = new HalfASize();
        x.sheet(0, 0, 4);
        x.sheet(1, 0, 3);
        x.sheet(2, 1, 4);
        int max = Integer.MAX_VALUE;
        int min = Integer.MIN_VALUE;
        int[][] wrong = {
            {-2, -1, 0, 0, 0, 0}, {-2, 4, 0, 0, 0, 0}, {-2, 0, 0, -1, 0, 0}, {-2, 0, 0, 4, 0, 0}, {-2, 3, 0, 4, 0, 0}, {-2, 4, 0, 3, 0, 0},
            {-11, 3, 0, 0, 0, 0}, {-11, 0, 0, 3, 0, 0}, {-11, 3, 9, 3, 9, 9}, {-11, 3, 0, 2, 0, 0},
            {-13, 0, 0, 2, 0, 1}, {-13, 2, 0, 1, 0, 1}, {-13, 2, -1, 1, 9, -1}, {-13, 0, 0, 2, 0, 0},
            {-12, 0, -1, 1, 0, 1}, {-12, 0, 0, 1, -1, 1}, {-12, 0, 0, 1, 0, -1}, {-12, 0, 0, 1, 0, 4}, {-12, 0, 2, 1, 0, 3},
            {-12, 0, 0, 1, 1, 3}, {-12, 0, 5, 1, 0, 0}, {-12, 0, 0, 1, 4, 0}, {-12, 0, max, 1, 0, 1}, {-12, 0, 0, 1, max, 1},
            {-12, 0, 0, 1, 0, max}, {-12, 0, max, 1, max, max}, {-12, 0, min, 1, 0, 1}, {-12, 0, 0, 1, min, 0}, {-12, 0, 0, 1, 0, min},
            {-12, 0, 1, 0, 2, 3},
        };
        for (int[] w : wrong) {
            CHECK.due("copy(" + w[1] + ", " + w[2] + ", " + w[3] + ", " + w[4] + ", " + w[5] + ")",
                w[0], x.copy(w[1], w[2], w[3], w[4], w[5]));
        }
        CHECK.due("the most that goes", 3, x.copy(0, 1, 1, 0, 3));
    }

    private static void towns() {
        for (int sort = 0; sort < 3; sort++) {
            HalfASize x = new HalfASize();
            x.set(3, 1, 5);
            x.set(3, 7, 5);
            Check.fill(x, 2, sort, 0, 9, 99, 1, 100, 2, 7, 10, -1, 3, 1, 0, 7, -1, 0, 8, 50, 4);
            CHECK.due("n 0", 0, x.town(2, sort, 0, 0));
            CHECK.due("nobody more", 10, x.count(2));
            CHECK.due("five became so, one twice", 5, x.town(2, sort, 0, 9));
            CHECK.due("the later one", 8, x.told(0, 3));
            CHECK.due("99", 1, x.told(99, 3));
            CHECK.due("1", 0, x.told(1, 3));
            CHECK.due("left out", 5, x.told(7, 3));
            CHECK.due("50", 4, x.told(50, 3));
            CHECK.due("the town", 18, x.count(2));
            CHECK.due("(9, 99), (1, 100), (2, 7), (10, -1)", 1, x.town(2, sort, 1, 4));
            CHECK.due("from an odd place", 7, x.told(2, 3));
        }
    }

    private static void townsWrongly() {
        HalfASize x = new HalfASize();
        Check.fill(x, 0, 1, 10, 1, 11, 2, 12, 3, 13);
        int max = Integer.MAX_VALUE;
        int min = Integer.MIN_VALUE;
        int[][] wrong = {
            {-2, -1, 1, 0, 1}, {-2, 4, 1, 0, 1}, {-2, 0, -1, 0, 1}, {-2, 0, 3, 0, 1}, {-2, 0, 1, 0, -1}, {-2, 0, 1, 0, 21}, {-2, 3, 1, 0, 21},
            {-13, 0, 0, 0, 1}, {-13, 0, 2, 0, 0}, {-13, 0, 2, 99, 1}, {-11, 3, 0, 0, 1}, {-11, 3, 2, 0, 0}, {-11, 3, 2, -1, 1},
            {-12, 0, 1, -1, 1}, {-12, 0, 1, 6, 1}, {-12, 0, 1, 7, 1}, {-12, 0, 1, max, 1}, {-12, 0, 1, min, 1}, {-12, 0, 1, max, 20},
            {-12, 0, 1, -2, 2}, {-12, 0, 1, -2, 20},
        };
        for (int[] w : wrong) {
            CHECK.due("town(" + w[1] + ", " + w[2] + ", " + w[3] + ", " + w[4] + ")", w[0], x.town(w[1], w[2], w[3], w[4]));
        }
        CHECK.due("nobody yet", 0, x.count(2));
        CHECK.due("what stood ahead", -12, x.town(0, 1, 2, 3));
        CHECK.due("what stood ahead became so", 5, x.count(2));
        CHECK.due("10 was not asked", 0, x.told(10, 3));
        CHECK.due("12", 3, x.told(12, 3));
        x.sheet(0, 1, 0);
        CHECK.due("no cell", -12, x.town(0, 1, 0, 1));
        CHECK.due("no cell asked", 0, x.town(0, 1, 0, 0));
        x.sheet(0, 0, 40);
        CHECK.due("twenty", 20, x.town(0, 0, 0, 20));
    }

    private static void takings() {
        HalfASize x = new HalfASize();
        CHECK.due("no such make", -11, x.taken(0, 0));
        CHECK.due("bad ahead", -2, x.taken(0, 6));
        for (int kind = 0; kind < 5; kind++) {
            x.make(kind, 100 * (kind + 1), 0);
        }
        String[] under = {"012345", "13", "24", "3", "4", "5"};
        for (int make = 0; make < 5; make++) {
            for (int k = 0; k < 6; k++) {
                int due = under[k].indexOf('0' + make) >= 0 ? make + 1 : -13;
                CHECK.due("kind " + make + " taken for " + k, due, x.taken(make, k));
            }
        }
        x.set(4, 4, 9);
        CHECK.due("its number", 9, x.taken(4, 2));
        CHECK.due("taken(.., -1)", -2, x.taken(0, -1));
        CHECK.due("taken(.., MAX)", -2, x.taken(0, Integer.MAX_VALUE));
        CHECK.due("taken(-1, ..)", -11, x.taken(-1, 0));
        CHECK.due("taken(5, ..)", -11, x.taken(5, 5));
        HalfASize y = new HalfASize();
        y.make(5, 700, 0);
        for (int k = 0; k < 6; k++) {
            CHECK.due("a clog taken for " + k, k == 0 || k == 5 ? 7 : -13, y.taken(0, k));
        }
    }
}
