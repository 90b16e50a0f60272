/** Promises 14 to 17: served, order, missing, lies. */
public final class TownTest {
    private static final Check CHECK = new Check("TownTest");

    public static void main(String[] args) {
        serving();
        ordering();
        orderingKinds();
        missing();
        lying();
        CHECK.end();
    }

    private static void serving() {
        HalfASize x = new HalfASize();
        CHECK.due("no shoe", 0, x.served(-1));
        CHECK.due("no make 0", -2, x.served(0));
        // 40 inside fits 36 .. 41, a clog 32 .. 41.
        x.make(0, 9, 1 << 8);
        x.make(5, 9, 1 << 8);
        x.make(0, 9, 0);
        int[][] people = {{31, 1}, {32, 2}, {35, 3}, {36, 4}, {41, 5}, {42, 6}};
        for (int[] p : people) {
            x.set(3, p[0], p[1]);
        }
        CHECK.due("36, 41", 9, x.served(0));
        CHECK.due("32, 35, 36, 41", 14, x.served(1));
        CHECK.due("no stock", 0, x.served(2));
        CHECK.due("nobody is served twice", 14, x.served(-1));
        x.set(6, 2, 1 << 9);
        CHECK.due("41, 42", 11, x.served(2));
        CHECK.due("all but 31", 20, x.served(-1));
        x.set(2, 0, 20);
        CHECK.due("the hour does not matter", 20, x.served(-1));
        x.set(3, 0, 7);
        x.set(6, 0, 1);
        CHECK.due("size 0 fits foot 0", 7, x.served(0));
        CHECK.due("size 0 fits foot 0", 27, x.served(-1));
        CHECK.due("served(-2)", -2, x.served(-2));
        CHECK.due("served(3)", -2, x.served(3));
        CHECK.due("served(MAX)", -2, x.served(Integer.MAX_VALUE));
    }

    private static void ordering() {
        HalfASize x = new HalfASize();
        CHECK.due("no make", -2, x.order(0, 0, 0));
        x.make(0, 9, 0);
        for (int n = 0; n < 4; n++) {
            CHECK.due("nobody: the least set", (1 << n) - 1, x.order(0, n, 0));
            CHECK.due("nobody", 0, x.order(0, n, 1));
        }
        x.set(3, 41, 9);
        x.set(3, 36, 1);
        x.set(3, 46, 1);
        // 36 has sizes 7 and 8, 41 sizes 8 and 9, 46 sizes 9 and 10, 96 size 19, 97 none.
        order(x, 0, 1, 1 << 8, 10);
        order(x, 0, 2, 1 << 7 | 1 << 9, 11);
        order(x, 0, 3, 1 | 1 << 7 | 1 << 9, 11);
        x.set(3, 96, 1);
        order(x, 0, 3, 1 << 7 | 1 << 9 | 1 << 19, 12);
        x.set(3, 97, 9);
        order(x, 0, 3, 1 << 7 | 1 << 9 | 1 << 19, 12);
        x.set(3, 0, 9);
        order(x, 0, 2, 1 | 1 << 8, 19);
        order(x, 0, 3, 1 | 1 << 7 | 1 << 9, 20);
        // Two sizes that share 41: it is served once.
        x.set(3, 0, 0);
        x.set(3, 35, 2);
        x.set(3, 37, 5);
        x.set(3, 45, 6);
        order(x, 0, 1, 1 << 9, 16);
        order(x, 0, 2, 1 << 8 | 1 << 9, 22);
        // Of two that share a foot, the last that the smaller one alone fits.
        x.set(3, 37, 0);
        x.set(3, 40, 4);
        order(x, 0, 2, 1 << 8 | 1 << 9, 21);
        order(x, 0, 0, 0, 0);
        // The last of all sets of three: 83, 88 and 94 have one size each.
        HalfASize y = new HalfASize();
        y.make(0, 9, 0);
        y.set(3, 83, 1);
        y.set(3, 88, 1);
        y.set(3, 94, 1);
        order(y, 0, 3, 1 << 17 | 1 << 18 | 1 << 19, 3);
        order(y, 0, 2, 1 << 17 | 1 << 18, 2);
        int[][] wrong = {{-1, 0, 0}, {1, 0, 0}, {0, -1, 0}, {0, 4, 0}, {0, 0, -1}, {0, 0, 2}, {Integer.MAX_VALUE, 1, 1}};
        for (int[] w : wrong) {
            CHECK.due("order(" + w[0] + ", " + w[1] + ", " + w[2] + ")", -2, x.order(w[0], w[1], w[2]));
        }
    }

    private static void order(HalfASize x, int make, int n, int set, int served) {
        CHECK.due("order(" + make + ", " + n + ", 0)", set, x.order(make, n, 0));
        CHECK.due("order(" + make + ", " + n + ", 1)", served, x.order(make, n, 1));
    }

    private static void orderingKinds() {
        HalfASize x = new HalfASize();
        x.make(5, 9, 1048575);
        x.make(3, 312, 0);
        x.set(3, 40, 3);
        x.set(3, 60, 2);
        x.set(3, 63, 2);
        // Clogs of sizes 12 and 13 are both 60 inside, 14 and 15 both 70 and fit 62 .. 71.
        order(x, 0, 1, 1 << 8, 3);
        order(x, 0, 2, 1 << 8 | 1 << 12, 5);
        order(x, 0, 3, 1 << 8 | 1 << 12 | 1 << 14, 7);
        // Pointed ones with number 3, run 3 are 5 times the size less 3 and fit what is 5 .. 8 less.
        order(x, 1, 1, 1 << 10, 3);
        x.set(3, 59, 1);
        order(x, 1, 1, 1 << 10, 3);
        order(x, 1, 2, 1 << 10 | 1 << 14, 6);
        x.set(3, 59, 2);
        order(x, 1, 1, 1 << 14, 4);
    }

    private static void missing() {
        HalfASize x = new HalfASize();
        CHECK.due("nobody", 0, x.missing(0));
        CHECK.due("nobody", -1, x.missing(1));
        x.set(3, 99, 1);
        CHECK.due("no shoe", 1, x.missing(0));
        CHECK.due("no shoe", 99, x.missing(1));
        x.make(0, 9, 1 << 8);
        x.set(3, 99, 0);
        x.set(3, 40, 9);
        CHECK.due("all are served", 0, x.missing(0));
        CHECK.due("all are served", -1, x.missing(1));
        x.set(3, 35, 4);
        x.set(3, 42, 4);
        CHECK.due("two feet", 8, x.missing(0));
        CHECK.due("the first of them", 35, x.missing(1));
        x.set(3, 42, 5);
        CHECK.due("two feet", 9, x.missing(0));
        CHECK.due("the one that more have", 42, x.missing(1));
        x.set(3, 0, 6);
        CHECK.due("foot 0", 15, x.missing(0));
        CHECK.due("foot 0", 0, x.missing(1));
        x.set(6, 0, 1 | 1 << 8);
        CHECK.due("size 0", 9, x.missing(0));
        CHECK.due("size 0", 42, x.missing(1));
        CHECK.due("missing(-1)", -2, x.missing(-1));
        CHECK.due("missing(2)", -2, x.missing(2));
    }

    private static void lying() {
        HalfASize x = new HalfASize();
        CHECK.due("no make", -2, x.lies(0));
        x.make(0, 9, 1 << 7 | 1 << 8 | 1 << 9);
        CHECK.due("nobody", 1 << 7 | 1 << 8 | 1 << 9, x.lies(0));
        x.set(3, 36, 1);
        CHECK.due("36 has two", 1 << 9, x.lies(0));
        x.set(3, 36, 0);
        x.set(3, 46, 9);
        CHECK.due("46 has one", 1 << 7 | 1 << 8, x.lies(0));
        x.make(0, 9, 1048575);
        CHECK.due("the other make's", 1048575 - (1 << 9) - (1 << 10), x.lies(1));
        x.set(6, 0, 0);
        CHECK.due("no stock", 0, x.lies(0));
        CHECK.due("lies(-1)", -2, x.lies(-1));
        CHECK.due("lies(2)", -2, x.lies(2));
    }
}
