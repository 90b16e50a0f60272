/** Boundary sentences of promises 1 to 5: a new object, set, make, told, fit. */
final class FeetEdges {
    private static final int ALL = 1048575;

    private FeetEdges() {
    }

    static void hold(Edges e) {
        face(e);
        newObject(e);
        calls(e);
        settingFeet(e);
        settingMakes(e);
        settingWrongly(e);
        making(e);
        makingTooMany(e);
        telling(e);
        feetNow(e);
        shoes(e);
        lengths(e);
        makeSays(e);
        otherKindsSay(e);
    }

    private static void face(Edges e) {
        e.holds(1, "public static final int NONE = -1, BAD = -2, STATE = -3, FULL = -4;")
            .same("NONE", -1, HalfASize.NONE).same("BAD", -2, HalfASize.BAD)
            .same("STATE", -3, HalfASize.STATE).same("FULL", -4, HalfASize.FULL);
        e.holds(1, "public static final long NO = -4611686018427387904L;")
            .same("NO", Long.MIN_VALUE / 2, HalfASize.NO);
        e.holds(1, "NONE is -1; NO, where a long is answered, -4611686018427387904.")
            .is("goes(0)", -1).refused("chance(0, 0, 0)", -4611686018427387904L);
        e.holds(1, "BAD (-2: a number is none such or not as told), STATE (-3), FULL (-4)")
            .refused("goes(100)", -2).refused("make(0, 19, 0)", -2).refused("back()", -3)
            .does("make(0, 0, 0)", "make(0, 0, 0)", "make(0, 0, 0)", "make(0, 0, 0)", "make(0, 0, 0)")
            .refused("make(0, 0, 0)", -4);
    }

    private static void newObject(Edges e) {
        e.holds(1, "No MAKES, nobody in THE TOWN.").is("count(0)", 0).is("count(2)", 0);
        for (int what = 4; what < 8; what++) {
            e.refused("told(0, " + what + ")", -100);
        }
        e.refused("served(0)", -2).is("served(-1)", 0).is("missing(0)", 0).is("make(0, 0, 0)", 0);
        e.holds(1, "of each of FEET 0 .. 99 how many have it (0 .. 9; 0 at first)");
        for (int foot = 0; foot < 100; foot++) {
            e.is("told(" + foot + ", 3)", 0);
        }
        e.holds(1, "LEFT and RIGHT: two of these (40 at first).").is("told(0, 0)", 40).is("told(0, 1)", 40);
        e.holds(1, "HOUR (0 .. 23; 9 at first)").is("told(0, 2)", 9);
        e.holds(1, "STOCK: SIZES (bits 0 .. 19; none at first)").is("count(1)", 0).is("pair(0)", -1);
        e.holds(1, "TEXT 0, at first THE RULE, is: swells ( 12 < hour ) * 3 ; rubs apart ; price 20 + size ;")
            .is("count(3)", 1).is("count(5)", 0).is("count(4)", 0).does("set(2, 0, 12)").is("told(0, 8)", 40)
            .does("set(2, 0, 13)").is("told(0, 8)", 43).is("told(0, 9)", 43).does("set(2, 0, 23)").is("told(0, 9)", 43)
            // 40 and 30 as the hour is 0: size 7 (35) has 10 in all, as 6 and 8 do; 6 is the first, and unlike ones cost 28, 26.
            .does("set(2, 0, 0)", "set(1, 0, 30)", "make(0, 9, 1048575)").is("pair(0)", 6).is("pair(1)", 10)
            .is("pair(4)", 0).is("pair(5)", 10 + 26 - (28 + 26) / 2);
        e.holds(1, "SHEETS 0 .. 3 are rows of numbers, or missing (as all are at first)");
        for (int sheet = 0; sheet < 4; sheet++) {
            e.refused("cell(" + sheet + ", 0, 0)", -11).refused("canBe(" + sheet + ", 0)", -11);
        }
    }

    /** The last call that is promised answers as the first ones do, whatever came ahead. */
    private static void calls(Edges e) {
        e.holds(1, "An object is used for at most 512 calls after it has been made; what later calls answer is free.");
        for (int i = 1; i <= 510; i++) {
            e.does("set(0, 0, " + i % 100 + ")");
        }
        e.is("set(0, 0, 7)", 10).is("told(0, 0)", 7);
        e.anew().does("make(0, 9, 1048575)");
        for (int i = 2; i <= 511; i++) {
            e.does(i % 2 == 0 ? "image()" : i % 3 == 0 ? "back()" : "film(3, 99, 20)");
        }
        e.is("canBe(3, 1)", 97);
    }

    private static void settingFeet(Edges e) {
        e.holds(2, "FEET are 0 .. 99 long.");
        for (int what = 0; what < 2; what++) {
            String call = "set(" + what + ", 0, ";
            e.anew().outside(call + "%d)", 0, 99, -100).is(call + "0)", 40).is(call + "1)", 0).is(call + "98)", 1)
                .is(call + "99)", 98).outside(call + "%d)", 0, 99, -100).is("told(0, " + what + ")", 99)
                .is("told(0, " + (1 - what) + ")", 40);
        }
        e.holds(2, "LEFT (what 0; of does not matter), RIGHT (1), HOUR (2)");
        int v = 20;
        for (int of : new int[] {-1, 5, 100, Integer.MIN_VALUE, Integer.MAX_VALUE}) {
            e.anew().is("set(0, " + of + ", " + v + ")", 40).is("set(1, " + of + ", " + (v + 1) + ")", 40)
                .is("set(2, " + of + ", " + (v - 9) + ")", 9).is("told(" + of + ", 0)", v).is("told(" + of + ", 1)", v + 1)
                .is("told(" + of + ", 2)", v - 9);
        }
        e.holds(2, "HOUR (0 .. 23; 9 at first)").outside("set(2, 0, %d)", 0, 23, -100).is("set(2, 0, 0)", 9)
            .is("set(2, 0, 1)", 0).is("set(2, 0, 22)", 1).is("set(2, 0, 23)", 22).is("told(0, 2)", 23);
        e.holds(2, "THE TOWN: of each of FEET 0 .. 99 how many have it (0 .. 9; 0 at first).");
        for (int foot : new int[] {0, 1, 98, 99}) {
            String call = "set(3, " + foot + ", ";
            e.outside(call + "%d)", 0, 9, -100).is(call + "9)", 0).is(call + "8)", 9).is(call + "0)", 8).is(call + "1)", 0)
                .is("told(" + foot + ", 3)", 1);
        }
        e.outside("set(3, %d, 1)", 0, 99, -100).outside("set(3, %d, 0)", 0, 99, -100).is("count(2)", 4);
        e.holds(2, "how many of THE TOWN have a FOOT (3)").is("set(3, 0, 9)", 0).is("set(3, 99, 9)", 0)
            .is("set(3, 0, 0)", 9).is("told(1, 3)", 0).is("told(98, 3)", 0).is("told(99, 3)", 9).is("count(2)", 9);
    }

    private static void settingMakes(Edges e) {
        e.holds(2, "a NUMBER (0 .. 9)").does("make(0, 509, 0)").outside("set(4, 0, %d)", 0, 9, -100).is("set(4, 0, 9)", 5)
            .is("set(4, 0, 8)", 9).is("set(4, 0, 1)", 8).is("set(4, 0, 0)", 1).is("told(0, 4)", 0);
        e.holds(2, "a RUN (-9 .. 9)").does("make(0, 14, 0)").outside("set(5, 0, %d)", -9, 9, -100).is("set(5, 0, -9)", 5)
            .is("set(5, 0, -8)", -9).is("set(5, 0, 8)", -8).is("set(5, 0, 9)", 8).is("told(0, 5)", 9);
        e.holds(2, "STOCK: SIZES (bits 0 .. 19; none at first)").does("make(0, 9, 6)").outside("set(6, 0, %d)", 0, ALL, -100)
            .is("set(6, 0, 0)", 6).is("set(6, 0, 1)", 0).is("count(1)", 1).is("set(6, 0, 524288)", 1)
            .is("set(6, 0, " + (ALL - 1) + ")", 524288).is("set(6, 0, " + ALL + ")", ALL - 1).is("count(1)", 20)
            .refused("set(6, 0, " + (ALL + 1 + 1) + ")", -100);
        e.holds(2, "NUMBER (4), RUN (5), STOCK (6) of a MAKE becomes v: what it was.");
        for (int what = 4; what < 7; what++) {
            String call = "set(" + what + ", %d, 1)";
            e.anew().outside(call, 0, -1, -100).refused(String.format(call, 0), -100).does("make(0, 212, 3)")
                .outside(call, 0, 0, -100).is(String.format(call, 0), what == 4 ? 2 : 3).is(String.format(call, 0), 1)
                .does("make(0, 212, 3)", "make(0, 212, 3)", "make(0, 212, 3)", "make(0, 212, 3)").outside(call, 0, 4, -100)
                .is(String.format(call, 4), what == 4 ? 2 : 3).is("told(4, " + what + ")", 1)
                .is("told(3, " + what + ")", what == 4 ? 2 : 3);
        }
    }

    private static void settingWrongly(Edges e) {
        e.holds(2, "-100: none such.").does("make(2, 312, 77)", "set(3, 0, 4)").outside("set(%d, 0, 0)", 0, 6, -100)
            .refused("set(7, 0, 4)", -100).refused("set(8, 0, 40)", -100).refused("set(9, 0, 40)", -100)
            .refused("set(6, 1, 0)", -100).is("set(0, 0, 0)", 40).is("set(6, 0, 0)", 77).is("told(0, 7)", 2);
    }

    private static void making(Edges e) {
        e.holds(3, "have a KIND: 0 MAKE, 1 NARROW under MAKE, 2 SOFT under MAKE, 3 POINTED under NARROW, "
            + "4 STRETCHED under SOFT, 5 CLOG under MAKE").outside("make(%d, 9, 1)", 0, 5, -2).is("make(0, 9, 1)", 0)
            .is("make(1, 9, 1)", 1).is("make(4, 9, 1)", 2).is("make(5, 9, 1)", 3).is("told(0, 7)", 0).is("told(1, 7)", 1)
            .is("told(2, 7)", 4).is("told(3, 7)", 5);
        e.holds(3, "A MAKE (what: 100 times NUMBER, and (RUN and 9)): its number.").outside("make(0, %d, 1)", 0, 918, -2)
            .refused("make(0, 1000, 1)", -2).refused("make(0, 1018, 1)", -2);
        for (int number = 0; number < 10; number++) {
            for (int run : new int[] {19, 20, 50, 99}) {
                e.refused("make(0, " + (100 * number + run) + ", 1)", -2);
            }
        }
        for (int what : new int[] {-100, -91, -9, 919, 999}) {
            e.refused("make(0, " + what + ", 1)", -2);
        }
        made(e, 0, 0, -9);
        made(e, 1, 0, -8);
        made(e, 17, 0, 8);
        made(e, 18, 0, 9);
        made(e, 100, 1, -9);
        made(e, 118, 1, 9);
        made(e, 818, 8, 9);
        made(e, 900, 9, -9);
        made(e, 917, 9, 8);
        made(e, 918, 9, 9);
        e.holds(3, "STOCK: SIZES (bits 0 .. 19; none at first)").outside("make(0, 9, %d)", 0, ALL, -2)
            .refused("make(0, 9, " + (ALL + 2) + ")", -2).is("make(0, 9, 0)", 0).is("make(0, 9, 1)", 1)
            .is("make(0, 9, 524288)", 2).is("make(0, 9, " + (ALL - 1) + ")", 3).is("make(0, 9, " + ALL + ")", 4)
            .is("told(0, 6)", 0).is("told(1, 6)", 1).is("told(2, 6)", 524288).is("told(3, 6)", ALL - 1)
            .is("told(4, 6)", ALL).is("count(1)", 41);
    }

    private static void made(Edges e, int what, int number, int run) {
        e.anew().is("make(0, " + what + ", 1)", 0).is("told(0, 4)", number).is("told(0, 5)", run);
    }

    private static void makingTooMany(Edges e) {
        e.holds(3, "MAKES (5 at most, numbered from 0)");
        for (int make = 0; make < 5; make++) {
            e.is("count(0)", make).refused("told(" + make + ", 7)", -100).is("make(" + make + ", 9, 0)", make);
        }
        e.is("count(0)", 5).refused("make(5, 9, 1)", -4).refused("make(0, 0, 0)", -4).refused("told(5, 7)", -100)
            .is("told(4, 7)", 4);
        e.holds(3, "BAD; FULL.").does("make(0, 9, 0)", "make(0, 9, 0)", "make(0, 9, 0)", "make(0, 9, 0)")
            .refused("make(6, 9, 0)", -2).does("make(0, 9, 0)").refused("make(0, 9, 0)", -4).refused("make(-1, 9, 0)", -2)
            .refused("make(6, 9, 0)", -2).refused("make(0, -1, 0)", -2).refused("make(0, 19, 0)", -2)
            .refused("make(0, 919, 0)", -2).refused("make(0, 9, -1)", -2).refused("make(0, 9, 1048576)", -2);
        e.holds(3, "Refusals, the first that the call's words name; they change nothing");
        for (int make = 0; make < 5; make++) {
            e.does("make(0, 9, 1)");
        }
        e.refused("make(6, 9, 1)", -2).refused("make(5, 9, 1)", -4).refused("force(1)", -2);
    }

    private static void telling(Edges e) {
        e.holds(4, "What 0 .. 6 as of set(), 7 KIND of a MAKE, 8 LEFT, 9 RIGHT as they are now (of does not matter).")
            .does("make(3, 716, 5)", "set(0, 0, 0)", "set(1, 0, 99)", "set(2, 0, 23)", "set(3, 99, 9)");
        for (int of : new int[] {0, -1, 1, 100, Integer.MIN_VALUE, Integer.MAX_VALUE}) {
            e.is("told(" + of + ", 0)", 0).is("told(" + of + ", 1)", 99).is("told(" + of + ", 2)", 23)
                .is("told(" + of + ", 8)", 3).is("told(" + of + ", 9)", 99);
        }
        e.is("told(99, 3)", 9).is("told(0, 4)", 7).is("told(0, 5)", 7).is("told(0, 6)", 5).is("told(0, 7)", 3);
        e.holds(4, "-100: none such.").outside("told(0, %d)", 0, 9, -100).outside("told(%d, 3)", 0, 99, -100)
            .is("told(0, 3)", 0).is("told(99, 3)", 0);
        for (int what = 4; what < 8; what++) {
            e.anew().refused("told(0, " + what + ")", -100).does("make(1, 110, 1)").outside("told(%d, " + what + ")", 0, 0, -100)
                .is("told(0, " + what + ")", 1).does("make(0, 0, 0)", "make(0, 0, 0)", "make(0, 0, 0)", "make(2, 211, 2)")
                .outside("told(%d, " + what + ")", 0, 4, -100).is("told(4, " + what + ")", 2);
        }
    }

    private static void feetNow(Edges e) {
        e.holds(4, "A FOOT as it is now: so long as told, and what swells tells (99 at most).").does("set(2, 0, 13)");
        int[][] now = {{0, 3}, {1, 4}, {95, 98}, {96, 99}, {97, 99}, {98, 99}, {99, 99}};
        for (int[] foot : now) {
            e.does("set(0, 0, " + foot[0] + ")").is("told(0, 8)", foot[1]).is("told(0, 0)", foot[0]);
            e.does("set(1, 0, " + foot[0] + ")").is("told(0, 9)", foot[1]).is("told(0, 1)", foot[0]);
        }
        e.holds(4, "swells (foot: 0 LEFT, 1 RIGHT; the others, but hour, 0): by how much a foot is longer then "
            + "(0 .. 20, else the bound).");
        String[] swells = {"- 1", "0", "1", "19", "20", "21", "9999", "0 - 9999", "2048*1024*1024", "2048*1024*1024 - 1"};
        int[] due = {0, 0, 1, 19, 20, 20, 20, 0, 0, 20};
        for (int i = 0; i < due.length; i++) {
            e.anew().type("swells " + swells[i] + ";rubs 0;price 0;").does("text()", "force(1)")
                .is("told(0, 8)", 40 + due[i]).is("told(0, 9)", 40 + due[i]).is("told(0, 0)", 40)
                .does("set(0, 0, 79)", "set(1, 0, 80)").is("told(0, 8)", Math.min(99, 79 + due[i]))
                .is("told(0, 9)", Math.min(99, 80 + due[i]));
        }
        // A shoe of size 19 and number 9 that was tried on last is none of a foot's names.
        e.anew().does("make(0, 918, 524288)", "make(0, 918, 524288)", "pair(5)")
            .type("swells size + make + apart + number + 7*foot;rubs 0;price 0;").does("text()", "force(1)", "pair(5)")
            .is("told(0, 8)", 40).is("told(0, 9)", 47);
        e.holds(4, "hour: HOUR.").type("swells hour;rubs 0;price 0;").does("text()", "force(1)").is("told(0, 8)", 49)
            .does("set(2, 0, 0)").is("told(0, 8)", 40).does("set(2, 0, 1)").is("told(0, 8)", 41).does("set(2, 0, 20)")
            .is("told(0, 9)", 60).does("set(2, 0, 23)").is("told(0, 9)", 60);
    }

    private static void shoes(Edges e) {
        e.holds(5, "A SIZE (0 .. 19) of a MAKE (shoe: 20 times it, and the SIZE; in STOCK or not): LONG (what NONE), "
            + "what it SAYS of a FOOT (0 .. 99).").does("make(0, 9, 1)", "make(0, 10, 0)")
            .is("fit(0, -1)", 0).is("fit(1, -1)", 5).is("fit(18, -1)", 90).is("fit(19, -1)", 95).is("fit(20, -1)", 1)
            .is("fit(39, -1)", 96).is("fit(8, 0)", 2).is("fit(8, 1)", 2).is("fit(8, 98)", -2).is("fit(8, 99)", -2)
            .is("fit(19, 99)", -1).is("fit(0, 0)", 0).does("make(2, 909, 0)", "make(0, 9, 0)").is("fit(20, 4)", -1)
            .is("fit(40, 4)", 0).is("fit(40, 5)", -1).is("fit(59, 99)", 0).is("fit(60, 4)", -1).is("fit(79, 99)", -1)
            // The hour makes no foot longer that is asked for by its length.
            .does("set(2, 0, 23)").is("fit(8, 41)", 0).is("fit(8, 42)", -1).is("fit(8, 39)", 0).is("fit(19, 99)", -1);
        e.holds(5, "-1000: none such.").refused("fit(0, -1)", -1000).refused("fit(0, 0)", -1000).does("make(0, 9, 3)")
            .outside("fit(%d, 0)", 0, 19, -1000).outside("fit(%d, -1)", 0, 19, -1000).outside("fit(0, %d)", -1, 99, -1000)
            .does("make(0, 9, 0)").is("fit(20, 0)", 0).outside("fit(%d, 0)", 0, 39, -1000)
            .does("make(0, 9, 0)", "make(0, 9, 0)", "make(0, 9, 0)").outside("fit(%d, 99)", 0, 99, -1000)
            .is("fit(99, 99)", -1).is("fit(80, 0)", 0);
    }

    /** For least and greatest NUMBER, RUN: the sizes 0, 1, 18, 19. */
    private static void lengths(Edges e) {
        e.holds(5, "LONG (how long a shoe of SIZE z is inside): MAKE: 5 times z, and RUN");
        longs(e, 0, 0, -9, -4, 81, 86);
        longs(e, 0, 918, 9, 14, 99, 104);
        e.holds(5, "NARROW: NUMBER less than a MAKE");
        longs(e, 1, 0, -9, -4, 81, 86);
        longs(e, 1, 900, -18, -13, 72, 77);
        longs(e, 1, 918, 0, 5, 90, 95);
        longs(e, 1, 118, 8, 13, 98, 103);
        e.holds(5, "SOFT: as a MAKE;");
        longs(e, 2, 900, -9, -4, 81, 86);
        longs(e, 2, 918, 9, 14, 99, 104);
        e.holds(5, "POINTED: 3 less than a NARROW;");
        longs(e, 3, 900, -21, -16, 69, 74);
        longs(e, 3, 18, 6, 11, 96, 101);
        e.holds(5, "STRETCHED: 2 more than a SOFT;");
        longs(e, 4, 900, -7, -2, 83, 88);
        longs(e, 4, 918, 11, 16, 101, 106);
        e.holds(5, "CLOG: 10 times (z by 2, cut), and RUN.");
        longs(e, 5, 900, -9, -9, 81, 81);
        longs(e, 5, 18, 9, 9, 99, 99);
        e.is("fit(2, -1)", 19).is("fit(3, -1)", 19).is("fit(16, -1)", 89).is("fit(17, -1)", 89);
    }

    private static void longs(Edges e, int kind, int what, int... due) {
        e.anew().does("make(" + kind + ", " + what + ", 0)").is("fit(0, -1)", due[0]).is("fit(1, -1)", due[1])
            .is("fit(18, -1)", due[2]).is("fit(19, -1)", due[3]);
    }

    /** Size 10 is 50 long in a MAKE: what the kind says, the shoe being so much longer. */
    private static void says(Edges e, int kind, int number, int... overAndDue) {
        e.anew().does("make(" + kind + ", " + (100 * number + 9) + ", 0)");
        int inside = kind == 1 ? 50 - number : kind == 3 ? 47 - number : kind == 4 ? 52 : 50;
        for (int i = 0; i < overAndDue.length; i += 2) {
            e.is("fit(10, " + (inside - overAndDue[i]) + ")", overAndDue[i + 1]);
        }
    }

    private static void makeSays(Edges e) {
        e.holds(5, "SAYS (how it fits, the shoe being o longer than the foot): MAKE: -2, if o is below -4");
        says(e, 0, 0, -49, -2, -6, -2, -5, -2);
        e.holds(5, "-1, if it is -4 .. -2");
        says(e, 0, 0, -5, -2, -4, -1, -3, -1, -2, -1, -1, 0);
        e.holds(5, "0, if it is -1 .. 4");
        says(e, 0, 0, -2, -1, -1, 0, 0, 0, 3, 0, 4, 0, 5, 1);
        e.holds(5, "1, if it is 5 .. 8; 2 above");
        says(e, 0, 0, 4, 0, 5, 1, 6, 1, 7, 1, 8, 1, 9, 2, 10, 2, 50, 2);
        says(e, 0, 9, -5, -2, -4, -1, -2, -1, -1, 0, 4, 0, 5, 1, 8, 1, 9, 2);
    }

    private static void otherKindsSay(Edges e) {
        e.holds(5, "NARROW: as a MAKE;");
        says(e, 1, 0, -5, -2, -4, -1, -2, -1, -1, 0, 4, 0, 5, 1, 8, 1, 9, 2);
        says(e, 1, 9, -5, -2, -4, -1, -2, -1, -1, 0, 4, 0, 5, 1, 8, 1, 9, 2);
        e.holds(5, "SOFT: as a MAKE would, o being NUMBER by 3 (cut) more;");
        soft(e, 2);
        e.holds(5, "POINTED: 1 less than a NARROW, if a NARROW SAYS 0 or more, else as a NARROW;");
        for (int number : new int[] {0, 9}) {
            says(e, 3, number, -6, -2, -5, -2, -4, -1, -3, -1, -2, -1, -1, -1, 0, -1, 4, -1, 5, 0, 6, 0, 8, 0, 9, 1, 10, 1, 35,
                1);
        }
        e.holds(5, "STRETCHED: as a SOFT;");
        soft(e, 4);
        e.holds(5, "CLOG: 0, if a MAKE SAYS 1, else as a MAKE.");
        for (int number : new int[] {0, 9}) {
            says(e, 5, number, -6, -2, -5, -2, -4, -1, -2, -1, -1, 0, 4, 0, 5, 0, 8, 0, 9, 2, 10, 2, 50, 2);
        }
        e.holds(5, "Quotients are cut toward 0.");
        says(e, 2, 8, 2, 0, 3, 1);
        e.anew().does("make(5, 9, 0)").is("fit(1, -1)", 0).is("fit(19, -1)", 90);
    }

    private static void soft(Edges e, int kind) {
        for (int number = 0; number < 10; number++) {
            int more = number < 3 ? 0 : number < 6 ? 1 : number < 9 ? 2 : 3;
            says(e, kind, number, -6 - more, -2, -5 - more, -2, -4 - more, -1, -2 - more, -1, -1 - more, 0, 4 - more, 0,
                5 - more, 1, 8 - more, 1, 9 - more, 2);
        }
    }
}
