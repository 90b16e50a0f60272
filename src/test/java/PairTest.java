/** Promise 13: pair. */
public final class PairTest {
    private static final Check CHECK = new Check("PairTest");

    public static void main(String[] args) {
        noShoe();
        alike();
        unlike();
        firstOfLike();
        worthIsCut();
        swollen();
        CHECK.end();
    }

    private static void pairs(HalfASize x, String when, int... due) {
        for (int what = 0; what < 6; what++) {
            CHECK.due(when + ", pair(" + what + ")", due[what], x.pair(what));
        }
        CHECK.due(when + ", pair(-1)", -100000, x.pair(-1));
        CHECK.due(when + ", pair(6)", -100000, x.pair(6));
        CHECK.due(when + ", pair(MIN)", -100000, x.pair(Integer.MIN_VALUE));
    }

    private static void noShoe() {
        HalfASize x = new HalfASize();
        pairs(x, "no make", -1, -1, -1, -1, -1, 0);
        x.make(0, 9, 0);
        pairs(x, "nothing in stock", -1, -1, -1, -1, -1, 0);
    }

    private static void alike() {
        HalfASize x = new HalfASize();
        x.make(0, 9, 1048575);
        pairs(x, "both 40", 8, 0, 8, 8, 0, 0);
        x.set(6, 0, 1);
        pairs(x, "size 0 alone", 0, 80, 0, 0, 80, 0);
        x.set(0, 0, 99);
        x.set(1, 0, 99);
        x.set(5, 0, -9);
        pairs(x, "99 at most each", 0, 198, 0, 0, 198, 0);
    }

    /** 30 and 50 long: every size between is as good for both; 26 is what the first of them costs. */
    private static void unlike() {
        HalfASize x = new HalfASize();
        x.make(0, 9, 1048575);
        x.set(0, 0, 30);
        x.set(1, 0, 50);
        pairs(x, "30 and 50", 6, 20, 6, 10, 0, 20 + 26 - 28);
        x.set(0, 0, 50);
        x.set(1, 0, 30);
        pairs(x, "50 and 30", 6, 20, 10, 6, 0, 20 + 26 - 28);
    }

    private static void firstOfLike() {
        HalfASize x = new HalfASize();
        x.make(0, 9, 1 << 7);
        x.make(0, 9, 1 << 9);
        x.make(0, 14, 1 << 8 | 1 << 7);
        // 35, 45, 45 and 40 inside.
        pairs(x, "40 is there", 47, 0, 47, 47, 0, 0);
        x.set(6, 2, 1 << 8);
        pairs(x, "35 and 45 are as far", 7, 10, 7, 7, 10, 0);
        x.set(0, 0, 45);
        x.set(1, 0, 45);
        pairs(x, "45 twice", 29, 0, 29, 29, 0, 0);
    }

    private static void worthIsCut() {
        HalfASize x = new HalfASize();
        x.make(0, 9, 3);
        // The pair is size 1, at 1; left alone wants 0, at 6, right alone 1: (6 and 1) by 2 is 3.
        Check.read(x, "swells 0;rubs 5*(foot=1)*(size=0) + (foot=0)*(size=1);price 6 - 5*size;");
        x.force(1);
        pairs(x, "cut", 1, 1, 0, 1, 0, 1 + 1 - 3);
    }

    private static void swollen() {
        HalfASize x = new HalfASize();
        x.make(2, 609, 1048575);
        x.set(2, 0, 13);
        pairs(x, "43 each, soft or not", 9, 4, 9, 9, 4, 0);
        x.set(0, 0, 98);
        pairs(x, "99 and 43", 9, 56, 19, 9, 6, 50 + 29 - (39 + 29) / 2);
    }
}
