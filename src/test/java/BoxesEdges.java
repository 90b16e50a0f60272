/** Boundary sentences of promises 18 to 24: runs, film, drawn, chance, image, back, count. */
final class BoxesEdges {
    private static final int ALL = 1048575;
    private static final long NO = -4611686018427387904L;

    private BoxesEdges() {
    }

    static void hold(Edges e) {
        runBits(e);
        kindBits(e);
        runsWrongly(e);
        filming(e);
        filmingBytes(e);
        filmingWrongly(e);
        drawing(e);
        chances(e);
        halfOfTheTown(e);
        images(e);
        backWithout(e);
        makesThatCameSince(e);
        counting(e);
    }

    private static void runs(Edges e, int what, int due, int foot, int... rows) {
        e.fill(0, 2, rows).is("runs(0, 0, " + foot + ", " + what + ")", due);
    }

    private static void runBits(Edges e) {
        e.holds(18, "RUNS: a SHEET as of CAN BE, a FOOT: RUNS (bits 0 .. 18, of -9 .. 9) by which, were they a MAKE's, "
            + "all rows of that MAKE would be so of the FOOT;").does("make(0, 9, 0)", "make(0, 9, 0)");
        // On 33, size 8 says -1 if it runs by -9 alone; on 40 it says 2 if it runs by 9 alone.
        runs(e, 0, 1, 33, 8, -1);
        runs(e, 0, 3, 34, 8, -1);
        runs(e, 0, 0, 32, 8, -1);
        runs(e, 0, 1 << 18, 40, 8, 2);
        runs(e, 0, 3 << 17, 39, 8, 2);
        runs(e, 0, 0, 41, 8, 2);
        runs(e, 0, 1 << 8 | 1 << 9 | 1 << 10 | 1 << 11 | 1 << 12 | 1 << 13, 40, 8, 0);
        runs(e, 0, 1 << 10 | 1 << 11 | 1 << 12, 40, 8, 0, 7, -1);
        runs(e, 0, 0, 40, 8, 0, 8, 1);
        runs(e, 0, (1 << 19) - 1, 99, 0, -2);
        runs(e, 0, 0, 0, 19, 0);
        // Rows of the other make are not of this one; where none is left, every run would do.
        runs(e, 0, 1 << 18, 40, 28, -2, 8, 2, 28, 0);
        runs(e, 0, (1 << 19) - 1, 40, 28, 2, 28, -2);
        runs(e, 0, (1 << 19) - 1, 0);
        runs(e, 0, (1 << 19) - 1, 99);
        e.fill(0, 0, 28, 2).is("runs(0, 1, 40, 0)", 1 << 18).is("runs(0, 0, 40, 0)", (1 << 19) - 1).is("told(0, 5)", 0)
            .is("told(1, 5)", 0);
        // The first and the last size of each make.
        e.fill(0, 0, 0, -2, 19, 2).is("runs(0, 0, 40, 0)", (1 << 19) - 1).is("runs(0, 1, 40, 0)", (1 << 19) - 1)
            .is("runs(0, 0, 4, 0)", 511).is("runs(0, 1, 4, 0)", (1 << 19) - 1).fill(0, 0, 20, -2, 39, 2)
            .is("runs(0, 1, 4, 0)", 511).is("runs(0, 0, 4, 0)", (1 << 19) - 1).is("runs(0, 1, 40, 0)", (1 << 19) - 1);
    }

    private static void kindBits(Edges e) {
        e.holds(18, "KINDS (bits 0 .. 5) likewise.").does("make(3, 909, 0)", "make(0, 9, 0)");
        // NUMBER 9: make 40, narrow 31, soft 40 and 3, pointed 28, stretched 42 and 3, clog 40 long.
        runs(e, 1, 1, 34, 8, 1);
        runs(e, 1, 32, 40, 7, -2, 8, 0, 6, -2, 9, 0);
        runs(e, 1, 63, 40, 28, 2);
        runs(e, 1, 63, 0);
        runs(e, 1, 63, 99);
        runs(e, 1, 0, 40, 8, 2);
        runs(e, 1, 2, 31, 8, 0);
        runs(e, 1, 8, 20, 8, 0);
        runs(e, 1, 4, 46, 8, -1);
        runs(e, 1, 4 | 16, 47, 8, -1);
        runs(e, 1, 16, 48, 8, -1);
        runs(e, 1, 32, 48, 9, -2, 10, 0);
        e.is("told(0, 7)", 3).is("told(1, 7)", 0);
    }

    private static void runsWrongly(Edges e) {
        e.holds(18, "RUNS (what 0), KINDS (1) of a MAKE.").does("make(0, 9, 0)", "make(5, 18, 0)").fill(0, 0, 8, -1, 29, 2)
            .is("runs(0, 0, 42, 0)", 7 << 7).is("runs(0, 0, 42, 1)", 1 | 2 | 4 | 32).is("runs(0, 1, 42, 0)", 0)
            .is("runs(0, 1, 42, 1)", 1 | 2 | 4 | 16).is("runs(0, 1, 40, 0)", 1 << 18).is("runs(0, 1, 41, 0)", 0);
        e.holds(18, "BAD: SHEET, MAKE, FOOT, what; -11; BAD: as of canBe().").fill(0, 0).refused("runs(0, 0, 0, 0)", -2)
            .does("make(0, 9, 1)").fill(3, 0, 8, 0).is("runs(3, 0, 40, 1)", 1 | 2 | 4 | 16 | 32).is("runs(0, 0, 0, 0)", 524287)
            .is("runs(0, 0, 99, 1)", 63).outside("runs(%d, 0, 0, 0)", 0, 3, -2).outside("runs(0, %d, 0, 0)", 0, 0, -2)
            .outside("runs(0, 0, %d, 0)", 0, 99, -2).outside("runs(0, 0, 0, %d)", 0, 1, -2).refused("runs(1, 0, 0, 0)", -11)
            .outside("runs(1, %d, 0, 0)", 0, 0, -2).outside("runs(1, 0, %d, 0)", 0, 99, -2).outside("runs(1, 0, 0, %d)", 0, 1, -2)
            .refused("runs(4, 9, 100, 2)", -2).does("sheet(0, -1, 0)").refused("runs(0, 0, 99, 1)", -11);
        int[][] wrong = {{0}, {0, 0, 0}, {-1, 0}, {20, 0}, {0, -3}, {0, 3}, {0, 0, 20, 0}, {0, 0, 0, 3}, {Integer.MIN_VALUE, 0}};
        for (int[] rows : wrong) {
            e.fill(1, 2, rows).refused("runs(1, 0, 0, 0)", -2);
        }
        e.refused("runs(1, 1, 0, 0)", -2).fill(1, 2, 19, -2).is("runs(1, 0, 0, 1)", 0)
            .does("make(0, 9, 1)", "make(0, 9, 1)", "make(0, 9, 1)", "make(0, 9, 1)").outside("runs(1, %d, 0, 0)", 0, 4, -2)
            .is("runs(1, 4, 0, 0)", 524287).fill(1, 2, 99, 2).is("runs(1, 4, 0, 0)", 524287).is("runs(1, 4, 99, 0)", 0)
            .fill(1, 2, 100, 2).refused("runs(1, 4, 0, 0)", -2);
    }

    private static Edges stocked(Edges e, int first, int second) {
        return e.anew().does("make(0, 9, " + first + ")", "make(0, 9, " + second + ")");
    }

    private static void filming(Edges e) {
        e.holds(19, "A SHEET truly becomes rows of two of the first n SHOES (0 .. 20; fewer, if there are no more) of STOCK, "
            + "and what they SAY of a FOOT (bytes): how many.");
        e.is("film(0, 0, 20)", 0).is("canBe(0, 0)", 100).refused("cell(0, 0, 0)", -12);
        stocked(e, 0, 0).is("film(0, 99, 1)", 0).refused("cell(0, 0, 0)", -12);
        int[] stocks = {0, 1, ALL - 2, ALL - 1, ALL};
        int[] shoes = {0, 1, 19, 19, 20};
        for (int i = 0; i < stocks.length; i++) {
            for (int n : new int[] {0, 1, 2, 18, 19, 20}) {
                int rows = Math.min(n, shoes[i]);
                stocked(e, 0, stocks[i]).is("film(3, 40, " + n + ")", rows).is("town(3, 0, 0, 0)", 0);
                e.is("copy(3, 0, 3, 0, " + 2 * rows + ")", 2 * rows).refused("copy(3, 0, 3, 0, " + (2 * rows + 1) + ")", -12);
            }
        }
        // Twenty-one shoes: the last of them is left out.
        stocked(e, ALL, 256).is("film(0, 40, 20)", 20).is("canBe(0, 0)", 1).is("runs(0, 1, 40, 0)", 524287)
            .does("set(6, 0, " + (ALL - 1) + ")").is("film(0, 40, 20)", 20).is("runs(0, 1, 40, 0)", 0x3F00).is("canBe(0, 1)", 40);
    }

    /** Items of a sheet of bytes are read by taking feet from it and by what shoes said. */
    private static void filmingBytes(Edges e) {
        e.holds(19, "(bytes): how many.").does("sheet(0, 2, 40)", "make(0, 9, 3)", "make(0, 12, 524288)").is("film(0, 0, 3)", 3)
            .refused("town(0, 1, 0, 0)", -13).refused("town(0, 2, 0, 0)", -13).refused("cell(0, 6, 0)", -12)
            // 0 says 0, 5 says 1 and 98 says 2 of foot 0: rows of 0, 1 and 39.
            .is("town(0, 0, 0, 3)", 3).is("told(0, 3)", 0).is("told(1, 3)", 1).is("told(39, 3)", 2).is("count(2)", 3)
            .is("film(0, 99, 3)", 3).is("canBe(0, 0)", 6).is("canBe(0, 1)", 94).is("canBe(0, 2)", 99).does("cell(0, 1, 0)")
            .is("canBe(0, 0)", 0);
        e.anew().does("make(0, 9, 0)", "make(0, 9, 0)", "make(0, 9, 0)", "make(0, 9, 0)", "make(0, 9, 524288)")
            .is("film(2, 99, 20)", 1)
            .is("canBe(2, 0)", 3).is("canBe(2, 1)", 97);
        e.holds(19, "A SHEET truly becomes").does("make(0, 9, 256)").refused("cell(1, 0, 0)", -11).is("film(1, 40, 1)", 1)
            .is("cell(1, 1, 0)", 1).is("film(1, 40, 0)", 0).refused("cell(1, 0, 0)", -12).is("canBe(1, 0)", 100);
    }

    private static void filmingWrongly(Edges e) {
        e.holds(19, "BAD.").does("make(0, 9, 768)").fill(0, 1, 10, 1).fill(3, 2).outside("film(%d, 0, 1)", 0, 3, -2)
            .outside("film(0, %d, 1)", 0, 99, -2).outside("film(0, 0, %d)", 0, 20, -2).outside("film(1, 0, %d)", 0, 20, -2)
            .refused("cell(1, 0, 0)", -11).is("film(0, 0, 0)", 0).is("film(3, 99, 20)", 2).is("film(1, 99, 1)", 1);
    }

    /** Of a seed's feet from .. to, in numbers that don't wrap of themselves. */
    private static long drawnFeet(int seed, int from, int to) {
        long z = seed & 0xFFFFFFFFL;
        long people = 0;
        for (int foot = 0; foot <= to; foot++) {
            z = z * 1103515245L + 12345 & 0xFFFFFFFFL;
            people += foot >= from ? (z >> 9) % 10 : 0;
        }
        return people;
    }

    private static void drawing(Edges e) {
        e.holds(20, "DRAWN by a SEED: THE TOWN, in thought: for each FOOT z = z * 1103515245 + 12345 (an int; SEED at first): "
            + "(z >>> 9) % 10 have it: how many SHOES of STOCK, all together, SERVE.");
        int[] seeds = {0, 1, -1, 9, 110, -1000000, Integer.MAX_VALUE, Integer.MAX_VALUE - 1, Integer.MIN_VALUE,
            Integer.MIN_VALUE + 1};
        for (int seed : seeds) {
            String call = "drawn(" + seed + ")";
            // -1 long fits foot 0 alone, 103 long 99 alone, 0 .. 95 long 0 .. 96, and 98 long the rest.
            e.anew().is(call, 0).does("make(0, 9, 0)").is(call, 0).does("set(6, 0, 1)", "set(5, 0, -1)")
                .is(call, drawnFeet(seed, 0, 0))
                .does("set(6, 0, 524288)", "set(5, 0, 8)").is(call, drawnFeet(seed, 99, 99))
                .does("set(6, 0, 256)", "set(5, 0, 0)")
                .is(call, drawnFeet(seed, 36, 41)).does("set(6, 0, " + ALL + ")").is(call, drawnFeet(seed, 0, 96))
                .does("make(0, 12, 524288)").is(call, drawnFeet(seed, 0, 99)).is("count(2)", 0).is("told(40, 3)", 0);
            e.does("set(3, 40, 9)").is(call, drawnFeet(seed, 0, 99)).is("count(2)", 9);
        }
        // Two makes' shoes that share feet 37 .. 41.
        e.holds(20, "DRAWN.").does("make(0, 9, 256)", "make(0, 10, 256)").is("drawn(5)", drawnFeet(5, 36, 42));
    }

    private static void chance(Edges e, int seed, int n, int above, int below) {
        e.is("chance(" + seed + ", " + n + ", 0)", above).is("chance(" + seed + ", " + n + ", 1)", below);
    }

    private static void chances(Edges e) {
        e.holds(21, "NO: n, part.").outside("chance(0, %d, 0)", 1, 20, NO).outside("chance(7, %d, 1)", 1, 20, NO)
            .outside("chance(0, 1, %d)", 0, 1, NO).outside("chance(-1, 20, %d)", 0, 1, NO).outside("chance(0, 0, %d)", 0, 1, NO);
        e.holds(21, "IN n seeds: part 0 above, 1 below the line, in lowest terms.");
        for (int n = 1; n <= 20; n++) {
            chance(e, 0, n, 0, 1);
        }
        e.anew().does("make(0, 9, " + ALL + ")");
        for (int n = 1; n <= 20; n++) {
            chance(e, 0, n, 1, 1);
        }
        // Sizes 0 .. 9 fit feet 0 .. 46.
        e.anew().does("make(0, 9, 1023)");
        int well = 0;
        for (int n = 1; n <= 20; n++) {
            int seed = 100 + n - 1;
            well += 2 * drawnFeet(seed, 0, 46) >= drawnFeet(seed, 0, 99) ? 1 : 0;
            int divisor = divisor(well, n);
            chance(e, 100, n, well / divisor, n / divisor);
        }
        e.holds(21, "IN n seeds (1 .. 20), SEED and each 1 more (an int)").does("make(0, 9, 1023)");
        for (int seed : new int[] {Integer.MAX_VALUE, Integer.MAX_VALUE - 1, Integer.MAX_VALUE - 18, Integer.MAX_VALUE - 19, -1,
            -20, Integer.MIN_VALUE}) {
            int wells = 0;
            for (int i = 0; i < 20; i++) {
                int other = (int) ((long) seed + i);
                wells += 2 * drawnFeet(other, 0, 46) >= drawnFeet(other, 0, 99) ? 1 : 0;
                if (i == 0 || i == 1 || i == 18 || i == 19) {
                    int divisor = divisor(wells, i + 1);
                    chance(e, seed, i + 1, wells / divisor, (i + 1) / divisor);
                }
            }
        }
    }

    private static int divisor(int a, int b) {
        return b == 0 ? a : divisor(b, a % b);
    }

    private static void halfOfTheTown(Edges e) {
        e.holds(21, "of these those by which that is half of THE TOWN, or more.").does("make(0, 9, 1023)");
        // 230 of 460; 205 of 409 and 227 of 452, just more; 229 of 459 and 230 of 462, just less.
        e.is("drawn(110)", 230).is("drawn(100)", 205).is("drawn(220)", 227).is("drawn(34)", 229).is("drawn(160)", 230)
            .does("make(0, 12, 524288)", "set(6, 0, " + ALL + ")").is("drawn(110)", 460).is("drawn(100)", 409)
            .is("drawn(220)", 452)
            .is("drawn(34)", 459).is("drawn(160)", 462).does("set(6, 1, 0)", "set(6, 0, 1023)");
        chance(e, 110, 1, 1, 1);
        chance(e, 100, 1, 1, 1);
        chance(e, 220, 1, 1, 1);
        chance(e, 34, 1, 0, 1);
        chance(e, 160, 1, 0, 1);
        // It is the town that is drawn: who lives in the one that is told does not matter.
        e.does("set(3, 99, 9)", "set(3, 98, 9)");
        chance(e, 110, 1, 1, 1);
        chance(e, 160, 1, 0, 1);
    }

    private static void images(Edges e) {
        e.holds(22, "AN IMAGE is kept: how many MAKES.").is("image()", 0).is("back()", 0);
        for (int make = 1; make <= 5; make++) {
            e.does("make(0, 9, 1)").is("image()", make).is("image()", make).is("count(0)", make).is("back()", make);
        }
        e.holds(22, "AN IMAGE keeps LEFT, RIGHT, HOUR, THE TOWN, NUMBERS, RUNS, STOCK, THE RULE (MAKES that came since go).")
            .does("make(5, 0, 1)").type("swells 2;rubs 0;price 0;").does("text()")
            .does("set(0, 0, 0)", "set(1, 0, 99)", "set(2, 0, 23)", "set(3, 0, 9)", "set(3, 99, 1)", "force(1)").is("image()", 1)
            .does("set(0, 0, 99)", "set(1, 0, 0)", "set(2, 0, 0)", "set(3, 0, 0)", "set(3, 99, 0)", "set(3, 50, 5)",
            "set(4, 0, 9)",
                "set(5, 0, 9)", "set(6, 0, " + ALL + ")", "force(0)").is("back()", 1).is("told(0, 0)", 0).is("told(0, 1)", 99)
            .is("told(0, 2)", 23).is("told(0, 3)", 9).is("told(99, 3)", 1).is("told(50, 3)", 0).is("count(2)", 10)
            .is("told(0, 4)", 0)
            .is("told(0, 5)", -9).is("told(0, 6)", 1).is("told(0, 7)", 5).is("count(5)", 1).is("told(0, 8)", 2);
        // Of each of five makes.
        e.anew();
        for (int make = 0; make < 5; make++) {
            e.does("make(" + make + ", " + (100 * make + make) + ", " + (1 << make) + ")");
        }
        e.does("image()");
        for (int make = 0; make < 5; make++) {
            e.does("set(4, " + make + ", 9)", "set(5, " + make + ", 9)", "set(6, " + make + ", 0)");
        }
        e.is("back()", 5);
        for (int make = 0; make < 5; make++) {
            e.is("told(" + make + ", 4)", make).is("told(" + make + ", 5)", make - 9).is("told(" + make + ", 6)", 1 << make)
                .is("told(" + make + ", 7)", make);
        }
    }

    private static void backWithout(Edges e) {
        e.holds(23, "STATE: there is none.").refused("back()", -3)
            .does("make(0, 9, 7)", "set(3, 4, 5)", "set(0, 0, 1)", "feed(97)")
            .refused("back()", -3).is("image()", 1).does("set(0, 0, 2)").is("back()", 1).is("told(0, 0)", 1);
        e.holds(23, "All that it keeps is as in THE IMAGE: how many MAKES.")
            .does("make(0, 9, 7)", "image()", "set(6, 0, 1)", "image()",
            "set(6, 0, 3)").is("back()", 1).is("told(0, 6)", 1).does("set(6, 0, 5)").is("back()", 1).is("told(0, 6)", 1);
        // What it does not keep stays: texts, the tape, sheets.
        e.type("swells 2;rubs 0;price 0;").does("text()", "force(1)").type("swells").fill(0, 1, 10, 2).is("back()", 1)
            .is("count(5)", 0)
            .is("count(3)", 2).is("count(4)", 6).is("town(0, 1, 0, 1)", 1).is("told(10, 3)", 2).is("back()", 1)
            .is("told(10, 3)", 0)
            .is("force(1)", 0).is("told(0, 8)", 42);
    }

    private static void makesThatCameSince(Edges e) {
        e.holds(23, "(MAKES that came since go)")
            .does("make(1, 109, 1)", "image()", "make(2, 209, 2)", "make(3, 309, 4)", "make(4, 409, 8)",
            "make(5, 509, 16)").refused("make(0, 9, 0)", -4).is("back()", 1).is("count(0)", 1).is("count(1)", 1)
            .refused("told(1, 7)", -100).refused("fit(20, 0)", -1000).refused("served(1)", -2).refused("taken(1, 0)", -11)
            .is("make(5, 918, 32)", 1).is("told(1, 7)", 5).is("told(1, 4)", 9).is("told(1, 5)", 9).is("told(1, 6)", 32)
            .is("back()", 1)
            .refused("told(1, 4)", -100).is("told(0, 7)", 1);
        e.anew().does("image()", "make(1, 109, 1)").is("back()", 0).is("count(0)", 0).refused("set(6, 0, 1)", -100)
            .is("pair(0)", -1)
            .is("make(3, 9, 1)", 0).is("told(0, 7)", 3);
        e.anew().does("make(0, 0, 1)", "make(0, 0, 1)", "make(0, 0, 1)", "make(0, 0, 1)", "make(4, 0, 1)", "image()",
            "set(6, 4, 2)")
            .is("back()", 5).refused("make(0, 0, 0)", -4).is("told(4, 6)", 1);
    }

    private static void counting(Edges e) {
        e.holds(24, "BAD.").outside("count(%d)", 0, 5, -2).does("make(0, 9, 1)", "feed(97)").outside("count(%d)", 0, 5, -2);
        e.holds(24, "How many: 0 MAKES, 1 SHOES of STOCK, 2 of THE TOWN, 3 TEXTS, 4 bytes of THE TAPE, 5 THE RULE.");
        int[] atFirst = {0, 0, 0, 1, 0, 0};
        for (int what = 0; what < 6; what++) {
            e.is("count(" + what + ")", atFirst[what]);
        }
        for (int make = 0; make < 5; make++) {
            e.is("count(1)", 20 * make).does("make(0, 9, " + ALL + ")").is("count(0)", make + 1);
        }
        e.is("count(1)", 100).does("set(6, 4, 524289)").is("count(1)", 82);
        for (int foot = 0; foot < 100; foot++) {
            e.does("set(3, " + foot + ", 9)");
        }
        e.is("count(2)", 900).does("set(3, 99, 0)").is("count(2)", 891).does("set(3, 0, 1)").is("count(2)", 883);
        e.anew();
        for (int text = 1; text <= 5; text++) {
            e.type("swells 0;rubs 0;price 0;").is("count(4)", 24).does("text()").is("count(4)", 0).is("count(3)", text + 1)
                .does("force(" + text + ")").is("count(5)", text);
        }
        e.type(" ".repeat(160)).is("count(4)", 160).refused("feed(32)", -4).is("count(4)", 160);
    }
}
