/** Boundary sentences of promises 13 to 17: pair, served, order, missing, lies. */
final class TownEdges {
    private static final int ALL = 1048575;
    /** Size 0 rubs on the right foot alone, size 1 on the left one alone, by 1: the pair is size 0, unlike ones are 0 and 1. */
    private static final String CROSSED = "swells 0;rubs (size=0)*(foot=1)+(size=1)*(foot=0);price ";

    private TownEdges() {
    }

    static void hold(Edges e) {
        pairs(e);
        firstPair(e);
        rubs(e);
        prices(e);
        halves(e);
        feetNow(e);
        serving(e);
        fitting(e);
        ordering(e);
        orderingLike(e);
        missing(e);
        lying(e);
    }

    private static Edges pairIs(Edges e, int... due) {
        for (int what = 0; what < 6; what++) {
            e.is("pair(" + what + ")", due[what]);
        }
        return e;
    }

    private static Edges ruled(Edges e, String text) {
        return e.anew().type(text).is("text()", 1).does("force(1)");
    }

    private static void pairs(Edges e) {
        e.holds(13, "NONE: there is no SHOE (5: 0).");
        pairIs(e, -1, -1, -1, -1, -1, 0).does("make(0, 9, 0)", "make(0, 9, 0)");
        pairIs(e, -1, -1, -1, -1, -1, 0).does("set(6, 1, 1)");
        pairIs(e, 20, 80, 20, 20, 80, 0).does("set(6, 1, 0)");
        pairIs(e, -1, -1, -1, -1, -1, 0);
        e.holds(13, "PAIR (what 0), what rubs (1); UNLIKE: of LEFT (2), of RIGHT (3), what rubs (4); WORTH (5).")
            .does("make(0, 9, 896)", "set(0, 0, 37)", "set(1, 0, 43)", "set(2, 0, 13)");
        // 35, 40, 45 long on 40 and 46; 28, 28 and 29 are the prices.
        pairIs(e, 8, 6, 8, 9, 1, 6 - 1 + 28 - 57 / 2);
        e.holds(13, "A SHOE: a MAKE, and a SIZE of its STOCK; told as 20 times the MAKE, and the SIZE.")
            .does("make(0, 9, 0)", "make(0, 9, 1)", "make(0, 9, 0)", "make(0, 9, 0)", "make(0, 9, 0)").is("pair(0)", 20)
            .does("set(6, 1, 524288)").is("pair(0)", 39).does("set(6, 1, 0)", "set(6, 0, 1)").is("pair(0)", 0)
            .does("set(6, 0, 524288)").is("pair(0)", 19).does("set(6, 0, 0)", "set(6, 4, 1)").is("pair(0)", 80)
            .does("set(6, 4, 524288)").is("pair(0)", 99).is("pair(2)", 99).is("pair(3)", 99);
        e.holds(13, "-100000: what.").outside("pair(%d)", 0, 5, -100000).does("make(0, 9, 256)")
            .outside("pair(%d)", 0, 5, -100000)
            .is("pair(0)", 8).is("pair(5)", 0);
    }

    private static void firstPair(Edges e) {
        e.holds(13, "PAIR: of all SHOES of STOCK that one of which rubs on LEFT and rubs on RIGHT, as they are now, together, "
            + "are least; of like ones the first.");
        // 35 and 45 long on 40 and 40: like ones; 34 and 45, 36 and 45: one of them is less.
        e.does("make(0, 9, 640)");
        pairIs(e, 7, 10, 7, 7, 10, 0).does("make(0, 8, 128)", "set(6, 0, 512)");
        pairIs(e, 9, 10, 9, 9, 10, 0).does("set(5, 1, 1)");
        pairIs(e, 27, 8, 27, 27, 8, 0).does("set(5, 1, 0)");
        pairIs(e, 9, 10, 9, 9, 10, 0);
        e.anew().does("make(0, 9, 1)", "make(0, 9, 1)", "make(0, 9, 1)", "make(0, 9, 1)", "make(0, 9, 524288)");
        pairIs(e, 0, 80, 0, 0, 80, 0).does("set(0, 0, 99)", "set(1, 0, 99)");
        pairIs(e, 99, 8, 99, 99, 8, 0);
        e.holds(13, "UNLIKE: likewise one for LEFT alone, one for RIGHT alone.")
            .does("make(0, 9, 896)", "set(0, 0, 37)", "set(1, 0, 43)");
        // 35, 40, 45 long: 37 wants 35 (2), 43 wants 45 (2), the pair is 40 (6).
        pairIs(e, 8, 6, 7, 9, 4, 6 - 4 + 28 - 28).does("make(0, 9, 896)");
        pairIs(e, 8, 6, 7, 9, 4, 2).does("set(0, 0, 38)", "set(1, 0, 42)");
        pairIs(e, 8, 4, 8, 8, 4, 0);
    }

    private static void rubs(Edges e) {
        e.holds(13, "rubs (of a shoe on a foot; size; make: its number; apart: o without its sign; number: NUMBER; foot): "
            + "how bad that is (0 .. 99, else the bound).");
        String[] rubs = {"-1", "0", "1", "98", "99", "100", "9999", "-9999", "2048*1024*1024", "2048*1024*1024-1"};
        int[] due = {0, 0, 1, 98, 99, 99, 99, 0, 0, 99};
        for (int i = 0; i < due.length; i++) {
            ruled(e, "swells 0;rubs " + rubs[i] + ";price 0;").does("make(0, 9, 1)");
            pairIs(e, 0, 2 * due[i], 0, 0, 2 * due[i], 0);
        }
        // 40 long: one shorter, as long, one longer than the foot.
        int[][] apart = {{39, 1}, {40, 0}, {41, 1}, {0, 40}, {99, 59}};
        for (int[] a : apart) {
            e.anew().does("make(0, 9, 256)", "set(0, 0, " + a[0] + ")").is("pair(1)", a[1]).is("pair(4)", a[1]);
        }
        // A soft one gives, and is no longer for that; -9 long on 99 is 108 apart.
        e.anew().does("make(2, 909, 256)").is("pair(1)", 0).anew().does("make(0, 0, 1)", "set(0, 0, 99)", "set(1, 0, 90)")
            .is("pair(1)", 198).does("set(1, 0, 89)").is("pair(1)", 99 + 98);
        ruled(e, "swells 0;rubs size + 20*make;price 0;").does("make(0, 9, 0)", "make(0, 9, 0)", "make(0, 9, 524288)")
            .is("pair(1)", 2 * 59).does("set(6, 2, 1)").is("pair(1)", 2 * 40).does("make(0, 9, 0)", "make(0, 9, 1)", "set(6, 2, 0)")
            .is("pair(1)", 2 * 80);
        ruled(e, "swells 0;rubs 7*number + 30*foot;price 0;").does("make(0, 909, 1)").is("pair(1)", 63 + 93).does("set(4, 0, 0)")
            .is("pair(1)", 30).does("set(4, 0, 1)").is("pair(4)", 7 + 37);
        ruled(e, "swells 0;rubs hour;price 0;").does("make(0, 9, 1)").is("pair(1)", 18).does("set(2, 0, 0)").is("pair(1)", 0)
            .does("set(2, 0, 23)").is("pair(1)", 46);
    }

    private static void prices(Edges e) {
        e.holds(13, "price (of a shoe; size; make; number; apart, foot 0): what it costs (0 .. 99, else the bound).");
        String[] prices = {"-1", "0", "1", "98", "99", "100", "9999", "-9999"};
        int[] due = {0, 0, 1, 98, 99, 99, 99, 0};
        for (int i = 0; i < due.length; i++) {
            // Size 0 costs that, size 1 nothing; then the other way about.
            ruled(e, CROSSED + "(size=0)*(" + prices[i] + ");").does("make(0, 9, 3)");
            pairIs(e, 0, 1, 0, 1, 0, 1 + due[i] - due[i] / 2);
            ruled(e, CROSSED + "(size=1)*(" + prices[i] + ");").does("make(0, 9, 3)").is("pair(5)", 1 - due[i] / 2);
        }
        ruled(e, CROSSED + "(size=0)*(10+20*foot+20*apart);").does("make(0, 9, 3)").is("pair(5)", 1 + 10 - 5);
        ruled(e, CROSSED + "(size=0)*(10*make+9);").does("make(0, 9, 0)", "make(0, 9, 0)", "make(0, 9, 0)", "make(0, 9, 0)",
            "make(0, 9, 3)").is("pair(0)", 80).is("pair(5)", 1 + 49 - 24);
        ruled(e, CROSSED + "(size=0)*(4*make+10*number+hour);").does("make(0, 9, 0)", "make(0, 309, 3)").is("pair(0)", 20)
            .is("pair(5)", 1 + 43 - 21);
    }

    private static void halves(Edges e) {
        e.holds(13, "WORTH: rubs of PAIR less those of both UNLIKE ones, and price of PAIR less "
            + "(prices of both UNLIKE ones, together, by 2, cut).");
        int[][] costs = {{0, 0, 1}, {0, 1, 1}, {0, 2, 0}, {0, 3, 0}, {0, 4, -1}, {1, 0, 2}, {1, 1, 1}, {2, 1, 2}, {99, 98, 2},
            {99, 99, 1},
            {98, 99, 1}, {0, 99, -48}};
        for (int[] c : costs) {
            ruled(e, CROSSED + "(size=0)*" + c[0] + "+(size=1)*" + c[1] + ";").does("make(0, 9, 3)").is("pair(5)", c[2]);
        }
    }

    private static void feetNow(Edges e) {
        e.holds(13, "as they are now").does("make(0, 9, 1792)", "set(2, 0, 12)");
        // 40, 45, 50 long: 40 and 40 at twelve, 43 and 43 at thirteen.
        pairIs(e, 8, 0, 8, 8, 0, 0).does("set(2, 0, 13)");
        pairIs(e, 9, 4, 9, 9, 4, 0).does("set(0, 0, 99)", "set(1, 0, 97)");
        pairIs(e, 10, 98, 10, 10, 98, 0);
        // Just the right foot swells, to 45; then just the left one.
        ruled(e, "swells 5*foot;rubs apart;price 0;").does("make(0, 9, 1792)");
        pairIs(e, 8, 5, 8, 9, 0, 5);
        ruled(e, "swells 5*(foot=0);rubs apart;price 0;").does("make(0, 9, 1792)");
        pairIs(e, 8, 5, 9, 8, 0, 5);
    }

    private static void serving(Edges e) {
        e.holds(14, "SERVED by all of STOCK (make NONE), by a MAKE's.").does("set(3, 40, 9)", "set(3, 45, 1)").is("served(-1)", 0)
            .does("make(0, 9, 256)").is("served(-1)", 9).is("served(0)", 9).does("make(0, 9, 0)").is("served(1)", 0)
            .is("served(-1)", 9).does("set(6, 1, 512)").is("served(1)", 10 - 9).is("served(-1)", 10).does("set(6, 0, 0)")
            .is("served(0)", 0).is("served(-1)", 1);
        // A make's own shoes alone: the sizes next to them are other makes'.
        e.anew().does("make(0, 9, 524288)", "make(0, 9, 256)", "make(0, 9, 1)", "set(3, 0, 3)", "set(3, 40, 2)", "set(3, 96, 1)")
            .is("served(0)", 1).is("served(1)", 2).is("served(2)", 3).is("served(-1)", 6);
        e.holds(14, "BAD.").outside("served(%d)", -1, -1, -2).does("make(0, 9, 256)").outside("served(%d)", -1, 0, -2)
            .does("make(0, 9, 256)", "make(0, 9, 256)", "make(0, 9, 256)", "make(0, 9, 256)").outside("served(%d)", -1, 4, -2)
            .is("served(4)", 0).is("served(-1)", 0);
    }

    private static void fitting(Edges e) {
        e.holds(14, "It FITS a FOOT, if it SAYS 0.").does("make(0, 9, 256)");
        int[][] served = {{35, 0}, {36, 1}, {37, 1}, {40, 1}, {41, 1}, {42, 0}};
        for (int[] s : served) {
            e.does("set(3, " + s[0] + ", 1)").is("served(0)", s[1]).is("served(-1)", s[1]).does("set(3, " + s[0] + ", 0)");
        }
        // The least and the greatest foot that size 10 fits in each kind, NUMBER being 9.
        int[][] kinds = {{0, 46, 51}, {1, 37, 42}, {2, 49, 54}, {3, 30, 33}, {4, 51, 56}, {5, 42, 51}};
        for (int[] k : kinds) {
            e.anew().does("make(" + k[0] + ", 909, 1024)", "set(3, " + k[1] + ", 1)", "set(3, " + k[2] + ", 2)")
                .is("served(0)", 3).is("missing(0)", 0).is("lies(0)", 0).is("order(0, 1, 0)", 1024).is("order(0, 1, 1)", 3)
                .does("set(3, " + (k[1] - 1) + ", 4)", "set(3, " + (k[2] + 1) + ", 4)").is("served(0)", 3).is("missing(0)", 8)
                .is("missing(1)", k[1] - 1).does("set(3, " + k[1] + ", 0)", "set(3, " + k[2] + ", 0)").is("served(-1)", 0)
                .is("lies(0)", 1024);
        }
        e.holds(14, "SERVED by some SHOES: how many of THE TOWN have a FOOT that any of these FITS.");
        // 40 and 41 long share 37 .. 41, and nobody is counted twice; 0 long fits 0 and 1, 98 long 94 .. 99.
        e.does("make(0, 9, 257)", "make(0, 10, 256)", "make(0, 12, 524288)", "set(3, 41, 9)").is("served(0)", 9)
            .is("served(1)", 9)
            .is("served(-1)", 9).does("set(3, 42, 1)").is("served(-1)", 10).does("set(3, 0, 9)", "set(3, 99, 9)", "set(3, 2, 9)",
            "set(3, 93, 9)").is("served(-1)", 28).is("served(0)", 18).is("served(2)", 9);
        // All feet there are: 0 .. 96 by one make, the rest by another.
        e.anew().does("make(0, 9, " + ALL + ")");
        for (int foot = 0; foot < 100; foot++) {
            e.does("set(3, " + foot + ", 9)");
        }
        e.is("served(-1)", 873).is("missing(0)", 27).is("missing(1)", 97).does("make(0, 12, 524288)").is("served(-1)", 900)
            .is("served(1)", 54).is("missing(0)", 0).is("missing(1)", -1).does("set(2, 0, 23)").is("served(-1)", 900);
    }

    private static void ordering(Edges e) {
        e.holds(15, "ORDER (a MAKE, n: 0 .. 3): of all sets of n SIZES (0 .. 19, in STOCK or not) of it that which SERVES most;")
            .does("make(0, 9, 1)", "set(3, 96, 9)", "set(3, 40, 2)", "set(3, 60, 1)", "set(3, 80, 1)", "set(3, 97, 9)")
            .is("order(0, 0, 0)", 0).is("order(0, 0, 1)", 0).is("order(0, 1, 0)", 1 << 19).is("order(0, 1, 1)", 9)
            .is("order(0, 2, 0)", 1 << 19 | 1 << 8).is("order(0, 2, 1)", 11).is("order(0, 3, 0)", 1 << 19 | 1 << 12 | 1 << 8)
            .is("order(0, 3, 1)", 12).does("set(3, 0, 9)").is("order(0, 1, 0)", 1).is("order(0, 2, 0)", 1 << 19 | 1)
            .is("order(0, 2, 1)", 18).is("order(0, 3, 1)", 20).is("told(0, 6)", 1);
        e.anew().does("make(0, 12, 0)", "set(3, 99, 9)", "set(3, 0, 8)").is("order(0, 1, 0)", 1 << 19).is("order(0, 1, 1)", 9)
            .is("order(0, 2, 1)", 17).does("set(5, 0, 0)").is("order(0, 1, 0)", 1).is("order(0, 1, 1)", 8);
        e.holds(15, "ORDER: the set (what 0), how many it SERVES (1).").does("make(0, 9, 0)", "make(0, 10, 0)", "set(3, 42, 7)",
            "set(3, 37, 2)").is("order(0, 1, 0)", 1 << 9).is("order(0, 1, 1)", 7).is("order(1, 1, 0)", 1 << 8)
                .is("order(1, 1, 1)", 9);
        e.holds(15, "BAD.").outside("order(%d, 1, 0)", 0, -1, -2).does("make(0, 9, 1)").outside("order(%d, 1, 0)", 0, 0, -2)
            .outside("order(0, %d, 0)", 0, 3, -2).outside("order(0, %d, 1)", 0, 3, -2).outside("order(0, 0, %d)", 0, 1, -2)
            .outside("order(0, 3, %d)", 0, 1, -2)
            .does("make(0, 9, 1)", "make(0, 9, 1)", "make(0, 9, 1)", "make(0, 9, 1)").outside("order(%d, 0, 0)", 0, 4, -2)
            .is("order(4, 3, 0)", 7).is("order(4, 0, 1)", 0);
    }

    private static void orderingLike(Edges e) {
        e.holds(15, "of like ones the least as bits.").does("make(0, 9, 0)");
        for (int n = 0; n < 4; n++) {
            e.is("order(0, " + n + ", 0)", (1 << n) - 1).is("order(0, " + n + ", 1)", 0);
        }
        // 41 is fitted by 40 and 45 long; one that 45 long alone fits turns it.
        e.does("set(3, 41, 9)").is("order(0, 1, 0)", 1 << 8).is("order(0, 2, 0)", 1 << 8 | 1).is("order(0, 3, 0)", 1 << 8 | 3)
            .does("set(3, 42, 1)").is("order(0, 1, 0)", 1 << 9).is("order(0, 2, 0)", 1 << 9 | 1).does("set(3, 40, 1)")
            .is("order(0, 1, 0)", 1 << 8).is("order(0, 1, 1)", 10).is("order(0, 2, 0)", 1 << 9 | 1 << 8).is("order(0, 2, 1)", 11);
        // Clogs of sizes 8 and 9 are alike: two of them serve no more than one.
        e.anew().does("make(5, 9, 0)", "set(3, 40, 9)", "set(3, 60, 1)", "set(3, 70, 1)").is("order(0, 1, 0)", 1 << 8)
            .is("order(0, 2, 0)", 1 << 12 | 1 << 8).is("order(0, 3, 0)", 1 << 14 | 1 << 12 | 1 << 8).is("order(0, 3, 1)", 11);
        // The greatest set of all.
        e.anew().does("make(0, 9, 0)", "set(3, 83, 1)", "set(3, 88, 1)", "set(3, 94, 1)").is("order(0, 3, 0)", 7 << 17)
            .is("order(0, 3, 1)", 3).is("order(0, 2, 0)", 3 << 17).is("order(0, 1, 0)", 1 << 17);
    }

    private static void missing(Edges e) {
        e.holds(16, "MISSING: how many (what 0), the FOOT (1; NONE: nobody).").is("missing(0)", 0).is("missing(1)", -1)
            .does("set(3, 0, 1)").is("missing(0)", 1).is("missing(1)", 0).does("make(0, 9, 1)").is("missing(0)", 0)
            .is("missing(1)", -1).does("set(3, 99, 1)").is("missing(0)", 1).is("missing(1)", 99)
            .does("set(3, 99, 0)", "set(3, 1, 9)")
            .is("missing(0)", 0).is("missing(1)", -1).does("set(3, 2, 9)").is("missing(0)", 9).is("missing(1)", 2);
        e.holds(16, "MISSING: how many of THE TOWN no SHOE of STOCK FITS; the FOOT that most of them have; of like ones the first.")
            .does("make(0, 9, 256)", "set(3, 40, 9)", "set(3, 35, 4)", "set(3, 42, 4)").is("missing(0)", 8).is("missing(1)", 35)
            .does("set(3, 42, 5)").is("missing(0)", 9).is("missing(1)", 42).does("set(3, 42, 3)").is("missing(0)", 7)
            .is("missing(1)", 35).does("set(3, 99, 4)").is("missing(1)", 35).does("set(3, 0, 4)").is("missing(1)", 0);
        e.holds(16, "BAD.").outside("missing(%d)", 0, 1, -2).does("make(0, 9, 1)", "set(3, 40, 9)")
            .outside("missing(%d)", 0, 1, -2)
            .is("missing(0)", 9).is("missing(1)", 40);
    }

    private static void lying(Edges e) {
        e.holds(17, "LIES: of a MAKE's STOCK SIZES (bits) that FIT nobody in THE TOWN.").does("make(0, 9, 0)").is("lies(0)", 0)
            .does("set(6, 0, " + ALL + ")").is("lies(0)", ALL).does("set(3, 0, 1)").is("lies(0)", ALL - 1).does("set(3, 0, 0)",
            "set(3, 96, 9)").is("lies(0)", ALL - (1 << 19)).does("set(3, 97, 9)", "set(3, 96, 0)").is("lies(0)", ALL)
            .does("set(3, 41, 1)").is("lies(0)", ALL - (1 << 8) - (1 << 9)).does("set(3, 41, 0)", "set(3, 42, 1)")
            .is("lies(0)", ALL - (1 << 9)).does("set(6, 0, 512)").is("lies(0)", 0).does("set(6, 0, 524289)")
            .is("lies(0)", 524289);
        e.holds(17, "LIES. BAD.").outside("lies(%d)", 0, -1, -2).does("make(0, 9, 256)").outside("lies(%d)", 0, 0, -2)
            .is("lies(0)", 256)
            .does("make(0, 9, 1)", "make(0, 9, 2)", "make(0, 9, 4)", "make(0, 9, 8)").outside("lies(%d)", 0, 4, -2)
            .is("lies(4)", 8);
    }
}
