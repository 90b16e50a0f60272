/** Promises 1 to 5: a new object, set, make, told, fit. */
public final class FeetTest {
    private static final Check CHECK = new Check("FeetTest");

    public static void main(String[] args) {
        newObject();
        setting();
        settingWrongly();
        making();
        telling();
        lengths();
        sayings();
        fittingWrongly();
        CHECK.end();
    }

    private static void newObject() {
        HalfASize x = new HalfASize();
        CHECK.due("no makes", 0, x.count(0));
        CHECK.due("no shoes", 0, x.count(1));
        CHECK.due("nobody", 0, x.count(2));
        CHECK.due("one text", 1, x.count(3));
        CHECK.due("an empty tape", 0, x.count(4));
        CHECK.due("the rule is text 0", 0, x.count(5));
        CHECK.due("left", 40, x.told(0, 0));
        CHECK.due("right", 40, x.told(0, 1));
        CHECK.due("hour", 9, x.told(0, 2));
        for (int foot = 0; foot < 100; foot++) {
            CHECK.due("nobody has " + foot, 0, x.told(foot, 3));
        }
        CHECK.due("no make 0", -100, x.told(0, 7));
        CHECK.due("no image", HalfASize.STATE, x.back());
        for (int sheet = 0; sheet < 4; sheet++) {
            CHECK.due("sheet " + sheet + " is missing", -11, x.cell(sheet, 0, 0));
        }
    }

    private static void setting() {
        HalfASize x = new HalfASize();
        x.make(1, 512, 77);
        CHECK.due("left was", 40, x.set(0, 12345, 0));
        CHECK.due("left was", 0, x.set(0, -5, 99));
        CHECK.due("right stays", 40, x.told(0, 1));
        CHECK.due("right was", 40, x.set(1, -1, 99));
        CHECK.due("right was", 99, x.set(1, 0, 0));
        CHECK.due("left stays", 99, x.told(0, 0));
        CHECK.due("hour was", 9, x.set(2, 99, 23));
        CHECK.due("hour was", 23, x.set(2, 0, 0));
        CHECK.due("foot 0 had", 0, x.set(3, 0, 9));
        CHECK.due("foot 0 had", 9, x.set(3, 0, 1));
        CHECK.due("foot 99 had", 0, x.set(3, 99, 3));
        CHECK.due("the town has", 4, x.count(2));
        CHECK.due("number was", 5, x.set(4, 0, 9));
        CHECK.due("number was", 9, x.set(4, 0, 0));
        CHECK.due("run was", 3, x.set(5, 0, -9));
        CHECK.due("run was", -9, x.set(5, 0, 9));
        CHECK.due("run is", 9, x.told(0, 5));
        CHECK.due("stock was", 77, x.set(6, 0, 1048575));
        CHECK.due("stock was", 1048575, x.set(6, 0, 0));
        CHECK.due("stock is", 0, x.count(1));
    }

    private static void settingWrongly() {
        HalfASize x = new HalfASize();
        x.make(0, 312, 5);
        int[][] wrong = {
            {-1, 0, 0}, {7, 0, 0}, {8, 0, 0}, {Integer.MIN_VALUE, 0, 0}, {Integer.MAX_VALUE, 0, 0},
            {0, 0, -1}, {0, 0, 100}, {1, 0, -1}, {1, 0, 100}, {2, 0, -1}, {2, 0, 24},
            {3, -1, 0}, {3, 100, 0}, {3, 0, -1}, {3, 0, 10}, {3, Integer.MIN_VALUE, 1},
            {4, -1, 0}, {4, 1, 0}, {4, 0, -1}, {4, 0, 10}, {5, -1, 0}, {5, 1, 0}, {5, 0, -10}, {5, 0, 10},
            {6, -1, 0}, {6, 1, 0}, {6, 0, -1}, {6, 0, 1048576}, {6, 5, 0},
        };
        for (int[] w : wrong) {
            CHECK.due("set(" + w[0] + ", " + w[1] + ", " + w[2] + ")", -100, x.set(w[0], w[1], w[2]));
        }
        int[] still = {40, 40, 9, 0, 3, 3, 5};
        for (int what = 0; what < still.length; what++) {
            CHECK.due("what " + what + " stays", still[what], x.told(0, what));
        }
    }

    private static void making() {
        HalfASize x = new HalfASize();
        int[][] wrong = {
            {-1, 0, 0}, {6, 0, 0}, {0, -1, 0}, {0, 19, 0}, {0, 99, 0}, {0, 919, 0}, {0, 1000, 0}, {0, 1018, 0},
            {0, 0, -1}, {0, 0, 1048576}, {0, Integer.MIN_VALUE, 0}, {0, Integer.MAX_VALUE, 0}, {Integer.MAX_VALUE, 0, 0},
        };
        for (int[] w : wrong) {
            CHECK.due("make(" + w[0] + ", " + w[1] + ", " + w[2] + ")", HalfASize.BAD, x.make(w[0], w[1], w[2]));
        }
        CHECK.due("none was made", 0, x.count(0));
        CHECK.due("the first", 0, x.make(0, 0, 0));
        CHECK.due("the second", 1, x.make(5, 918, 1048575));
        CHECK.due("the third", 2, x.make(3, 109, 1));
        CHECK.due("the fourth", 3, x.make(4, 900, 2));
        CHECK.due("the fifth", 4, x.make(1, 18, 4));
        CHECK.due("makes", 5, x.count(0));
        CHECK.due("no room", HalfASize.FULL, x.make(0, 0, 0));
        CHECK.due("bad ahead of full", HalfASize.BAD, x.make(6, 0, 0));
        int[][] told = {{0, -9, 0, 0}, {9, 9, 1048575, 5}, {1, 0, 1, 3}, {9, -9, 2, 4}, {0, 9, 4, 1}};
        for (int make = 0; make < 5; make++) {
            for (int what = 4; what < 8; what++) {
                CHECK.due("told(" + make + ", " + what + ")", told[make][what - 4], x.told(make, what));
            }
        }
    }

    private static void telling() {
        HalfASize x = new HalfASize();
        x.make(2, 407, 9);
        int[][] wrong = {
            {0, -1}, {0, 10}, {-1, 3}, {100, 3}, {-1, 4}, {1, 4}, {1, 5}, {-1, 6}, {1, 6}, {1, 7}, {-1, 7},
            {Integer.MAX_VALUE, 4}, {Integer.MIN_VALUE, 3}, {0, Integer.MIN_VALUE}, {0, Integer.MAX_VALUE},
        };
        for (int[] w : wrong) {
            CHECK.due("told(" + w[0] + ", " + w[1] + ")", -100, x.told(w[0], w[1]));
        }
        CHECK.due("of does not matter", 40, x.told(-7, 0));
        CHECK.due("of does not matter", 9, x.told(700, 2));
        CHECK.due("kind", 2, x.told(0, 7));
        x.set(0, 0, 97);
        x.set(1, 0, 96);
        x.set(2, 0, 12);
        CHECK.due("at 12 nothing swells", 97, x.told(-1, 8));
        x.set(2, 0, 13);
        CHECK.due("99 at most", 99, x.told(-1, 8));
        CHECK.due("3 more", 99, x.told(-1, 9));
        x.set(1, 0, 95);
        CHECK.due("3 more", 98, x.told(1000, 9));
        CHECK.due("told as it is", 95, x.told(0, 1));
    }

    private static void lengths() {
        // Of each kind, number 7, run -4: size 0, 1, 2, 11, 19.
        int[] sizes = {0, 1, 2, 11, 19};
        int[][] due = {
            {-4, 1, 6, 51, 91}, {-11, -6, -1, 44, 84}, {-4, 1, 6, 51, 91},
            {-14, -9, -4, 41, 81}, {-2, 3, 8, 53, 93}, {-4, -4, 6, 46, 86},
        };
        for (int kind = 0; kind < 6; kind++) {
            HalfASize x = new HalfASize();
            x.make(kind, 705, 0);
            for (int i = 0; i < sizes.length; i++) {
                CHECK.due("kind " + kind + " size " + sizes[i] + " inside", due[kind][i], x.fit(sizes[i], -1));
            }
        }
    }

    private static void sayings() {
        // What a kind says, the shoe being longer by -6 .. 10, with number 0, with 8 (soft ones: 2 more) and 9 (3 more).
        String make = "-2 -2 -1 -1 -1 0 0 0 0 0 0 1 1 1 1 2 2";
        String pointed = "-2 -2 -1 -1 -1 -1 -1 -1 -1 -1 -1 0 0 0 0 1 1";
        String clog = "-2 -2 -1 -1 -1 0 0 0 0 0 0 0 0 0 0 2 2";
        String soft = "-1 -1 -1 0 0 0 0 0 0 1 1 1 1 2 2 2 2";
        String softer = "-1 -1 0 0 0 0 0 0 1 1 1 1 2 2 2 2 2";
        String[] without = {make, make, make, pointed, make, clog};
        String[] with = {make, make, soft, pointed, soft, clog};
        for (int kind = 0; kind < 6; kind++) {
            says(kind, 0, without[kind].split(" "));
            says(kind, 2, without[kind].split(" "));
            says(kind, 8, with[kind].split(" "));
            says(kind, 9, (kind == 2 || kind == 4 ? softer : with[kind]).split(" "));
        }
        HalfASize x = new HalfASize();
        x.make(0, 9, 0);
        x.make(5, 9, 0);
        CHECK.due("another make's", 0, x.fit(20 + 9, 40));
        CHECK.due("the first make's", 1, x.fit(9, 40));
        CHECK.due("the greatest foot", -1, x.fit(19, 99));
        CHECK.due("the least foot", 0, x.fit(0, 0));
    }

    private static void says(int kind, int number, String[] due) {
        HalfASize x = new HalfASize();
        x.make(kind, 100 * number + 9, 0);
        int inside = x.fit(12, -1);
        for (int over = -6; over <= 10; over++) {
            CHECK.due("kind " + kind + " number " + number + " over " + over,
                Integer.parseInt(due[over + 6]), x.fit(12, inside - over));
        }
    }

    private static void fittingWrongly() {
        HalfASize x = new HalfASize();
        CHECK.due("no make", -1000, x.fit(0, 0));
        x.make(0, 9, 0);
        CHECK.due("the last size", 95, x.fit(19, -1));
        int[][] wrong = {
            {-1, 0}, {20, 0}, {-20, -1}, {0, -2}, {0, 100}, {Integer.MIN_VALUE, 0}, {Integer.MAX_VALUE, 0},
            {0, Integer.MIN_VALUE}, {0, Integer.MAX_VALUE},
        };
        for (int[] w : wrong) {
            CHECK.due("fit(" + w[0] + ", " + w[1] + ")", -1000, x.fit(w[0], w[1]));
        }
    }
}
