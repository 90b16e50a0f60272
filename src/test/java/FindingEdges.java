/** Boundary sentences of promises 9 to 12: canBe, fetch, goes, worst. */
final class FindingEdges {
    private static final int ALL = 1048575;

    private FindingEdges() {
    }

    static void hold(Edges e) {
        whichFeet(e);
        rowsOfShoes(e);
        feetOfRows(e);
        fetching(e);
        fewest(e);
        refusedRows(e, 9, "canBe", 2, "BAD: SHEET, what; -11;",
            "BAD: its size isn't by twos, no such MAKE, what it SAID is none such.");
        refusedRows(e, 10, "fetch", 1, "BAD, -11, BAD likewise.", "BAD, -11, BAD likewise.");
        goesOfFeet(e);
        goesCounted(e);
        noGoes(e);
        atWorst(e);
    }

    private static void canBe(Edges e, int many, int least, int greatest, int... rows) {
        for (int sort = 0; sort < 3; sort++) {
            e.fill(2, sort, rows).is("canBe(2, 0)", many).is("canBe(2, 1)", least).is("canBe(2, 2)", greatest);
        }
    }

    private static void whichFeet(Edges e) {
        e.holds(9, "CAN BE: how many (what 0), the least (1; NONE), the greatest (2; NONE).");
        canBe(e, 100, 0, 99);
        // Run 4: size 1 is 9 long and says 2 of foot 0 alone; size 18 is 94 long and says -2 of foot 99 alone.
        e.anew().does("make(0, 13, 0)");
        canBe(e, 1, 0, 0, 1, 2);
        canBe(e, 4, 1, 4, 1, 1);
        canBe(e, 1, 99, 99, 18, -2);
        canBe(e, 3, 96, 98, 18, -1);
        canBe(e, 6, 90, 95, 18, 0);
        canBe(e, 0, -1, -1, 18, -2, 1, 2);
        canBe(e, 0, -1, -1, 1, 2, 1, 1);
        // One longer, none is left; one shorter, there are two.
        e.anew().does("make(0, 14, 0)");
        canBe(e, 0, -1, -1, 18, -2);
        canBe(e, 2, 0, 1, 1, 2);
        e.anew().does("make(0, 12, 0)");
        canBe(e, 2, 98, 99, 18, -2);
        canBe(e, 0, -1, -1, 1, 2);
    }

    private static void rowsOfShoes(Edges e) {
        e.holds(9, "CAN BE: a SHEET tells rows of two: 20 times a MAKE, and a SIZE (0 .. 19, in STOCK or not), "
            + "and what that SAID (-2 .. 2)")
                .does("make(0, 9, 1)", "make(0, 9, 0)", "make(0, 9, 0)", "make(0, 9, 0)", "make(0, 11, 0)");
        canBe(e, 2, 0, 1, 0, 0);
        canBe(e, 3, 97, 99, 19, -1);
        canBe(e, 2, 0, 1, 20, 0);
        canBe(e, 3, 97, 99, 39, -1);
        canBe(e, 4, 0, 3, 80, 0);
        canBe(e, 6, 93, 98, 99, 0);
        canBe(e, 55, 45, 99, 8, -2);
        canBe(e, 3, 42, 44, 8, -1);
        canBe(e, 6, 36, 41, 8, 0);
        canBe(e, 4, 32, 35, 8, 1);
        canBe(e, 32, 0, 31, 8, 2);
    }

    private static void feetOfRows(Edges e) {
        e.holds(9, "FEET (0 .. 99) of which all rows are so.").does("make(0, 9, 0)");
        canBe(e, 6, 36, 41, 8, 0);
        canBe(e, 1, 41, 41, 8, 0, 9, 0);
        canBe(e, 4, 37, 40, 8, 0, 9, 1);
        canBe(e, 0, -1, -1, 8, 0, 9, 0, 10, 0);
        canBe(e, 0, -1, -1, 8, 0, 8, 0, 8, 1);
        // Size 10 of each kind, NUMBER being 9: the greatest feet of which it says -1, 0, 1 and 2.
        int[][] kinds = {{54, 51, 45, 41}, {45, 42, 36, 32}, {57, 54, 48, 44}, {42, 33, 29, -1}, {59, 56, 50, 46}, {54, 51, 41, 41}};
        for (int kind = 0; kind < 6; kind++) {
            e.anew().does("make(" + kind + ", 909, 0)");
            int least = 0;
            for (int said = 2; said >= -2; said--) {
                int greatest = said == -2 ? 99 : kinds[kind][said + 1];
                boolean none = greatest < least;
                canBe(e, greatest - least + 1, none ? -1 : least, none ? -1 : greatest, 10, said);
                least = greatest + 1;
            }
        }
        // The kind and the number are those of the shoe's own make, for its first size and its last.
        e.anew().does("make(0, 9, 0)", "make(2, 909, 0)", "make(5, 9, 0)");
        canBe(e, 2, 0, 1, 0, 0);
        canBe(e, 6, 91, 96, 19, 0);
        canBe(e, 5, 0, 4, 20, 0);
        canBe(e, 6, 94, 99, 39, 0);
        canBe(e, 2, 0, 1, 40, 0);
        canBe(e, 10, 82, 91, 59, 0);
        e.anew().does("make(0, 18, 0)", "make(5, 18, 0)", "make(3, 18, 0)");
        canBe(e, 6, 5, 10, 0, 0);
        canBe(e, 10, 1, 10, 20, 0);
        canBe(e, 2, 0, 1, 40, 0);
        // Twenty rows, the last of which rules all out.
        e.anew().does("make(0, 9, 0)", "sheet(0, 0, 40)").is("canBe(0, 0)", 2).does("cell(0, 39, 1)").is("canBe(0, 0)", 0)
            .is("canBe(0, 1)", -1).is("canBe(0, 2)", -1).does("cell(0, 39, 0)", "cell(0, 0, 1)", "cell(0, 1, 2)")
            .is("canBe(0, 0)", 0);
        for (int row = 0; row < 20; row++) {
            e.does("cell(0, " + 2 * row + ", 8)");
        }
        e.does("cell(0, 1, 0)").is("canBe(0, 0)", 6).is("canBe(0, 1)", 36).is("canBe(0, 2)", 41);
    }

    private static void fetching(Edges e) {
        e.holds(10, "FETCH (what 0; NONE), how many SAY that same thing then (1; NONE).");
        e.fill(1, 0).is("fetch(1, 0)", -1).is("fetch(1, 1)", -1).does("make(0, 9, 0)").is("fetch(1, 0)", -1).is("fetch(1, 1)", -1)
            .does("set(6, 0, 1)").is("fetch(1, 0)", 0).is("fetch(1, 1)", 95).does("set(6, 0, 524288)").is("fetch(1, 0)", 19)
            .is("fetch(1, 1)", 87);
        e.holds(10, "NONE: there is no SHOE, or none CAN BE.").does("make(0, 9, " + ALL + ")");
        e.fill(1, 0, 8, 0, 8, 1).is("fetch(1, 0)", -1).is("fetch(1, 1)", -1);
        // 40 alone: every shoe says one thing, so the first is fetched.
        e.does("set(5, 0, 0)").fill(1, 0, 8, 0, 9, 0).is("fetch(1, 0)", 0).is("fetch(1, 1)", 1).does("set(6, 0, 0)")
            .is("fetch(1, 0)", -1).is("fetch(1, 1)", -1).is("canBe(1, 0)", 1);
    }

    private static void fewest(Edges e) {
        e.holds(10, "FETCH: of each SHOE of STOCK that answer (-2 .. 2) counts which it SAYS of most that CAN BE; "
            + "the SHOE by which these are fewest; of like ones the first;");
        e.fill(0, 2).does("make(0, 9, 256)", "make(0, 9, 256)").is("fetch(0, 0)", 8).is("fetch(0, 1)", 55);
        // 41 long: -2 of 46 .. 99, one fewer; 39 long: one more.
        e.does("set(5, 1, 1)").is("fetch(0, 0)", 28).is("fetch(0, 1)", 54).does("set(5, 1, -1)").is("fetch(0, 0)", 8)
            .is("fetch(0, 1)", 55).does("set(5, 0, -1)").is("fetch(0, 0)", 8).is("fetch(0, 1)", 56).does("set(5, 0, -2)")
            .is("fetch(0, 0)", 28).is("fetch(0, 1)", 56);
        // Both ends: -2 of 57 .. 99 and 2 of 0 .. 43, as of 58 .. 99 and 0 .. 44.
        e.anew().fill(0, 2).does("make(0, 11, 1024)").is("fetch(0, 1)", 44).does("set(5, 0, 3)").is("fetch(0, 1)", 45)
            .does("set(5, 0, 1)").is("fetch(0, 1)", 44).does("set(5, 0, 0)").is("fetch(0, 1)", 45);
        // The answer in between counts, too: of 40 .. 45, 45 long says 0; 40 long says 0, -1, -2 of two, three, one.
        e.anew().does("make(0, 9, 768)").fill(0, 2, 9, 0, 8, 0).is("fetch(0, 0)", 8).is("fetch(0, 1)", 1)
            .fill(0, 2, 9, 0).is("canBe(0, 0)", 6).is("fetch(0, 0)", 8).is("fetch(0, 1)", 3);
    }

    /** Of a call of a sheet and a what: what of the sheet is refused, and that what is refused ahead of all. */
    private static void refusedRows(Edges e, int promise, String name, int greatest, String ahead, String behind) {
        e.holds(promise, ahead).does("make(0, 9, 1)").fill(0, 0).fill(3, 0)
            .is(name + "(0, " + greatest + ")", greatest == 2 ? 99 : 95)
            .is(name + "(3, 0)", greatest == 2 ? 100 : 0).outside(name + "(%d, 0)", 0, 3, -2)
            .outside(name + "(0, %d)", 0, greatest, -2).outside(name + "(1, %d)", 0, greatest, -2)
            .outside(name + "(%d, 9)", 0, 3, -2).refused(name + "(1, 0)", -11).refused(name + "(2, " + greatest + ")", -11)
            .does("sheet(0, -1, 0)").refused(name + "(0, 0)", -11).fill(0, 0, 20)
            .refused(name + "(0, " + (greatest + 1) + ")", -2);
        e.holds(promise, behind);
        int feet = greatest == 2 ? 2 : 0;
        for (int size = 0; size <= 40; size++) {
            e.anew().does("make(0, 9, 1)", "sheet(0, 1, " + size + ")");
            if (size % 2 == 1) {
                e.refused(name + "(0, 0)", -2);
            } else {
                e.is(name + "(0, 0)", size == 0 && greatest == 2 ? 100 : feet);
            }
        }
        e.anew().fill(0, 2, 0, 0).refused(name + "(0, 0)", -2).does("make(0, 9, 1)").is(name + "(0, 0)", feet);
        int[][] wrong = {{-1, 0}, {20, 0}, {-20, 0}, {Integer.MIN_VALUE, 0}, {Integer.MAX_VALUE, 0}, {0, -3}, {0, 3},
            {0, Integer.MIN_VALUE}, {0, Integer.MAX_VALUE}, {0, 0, 20, 0}, {0, 0, 0, 3}, {0, 1, 0, 2, -1, 0}, {0, 1, 0, 2, 0,
                -3}};
        for (int[] rows : wrong) {
            e.fill(0, 2, rows).refused(name + "(0, 0)", -2);
        }
        for (int said = -2; said <= 2; said++) {
            e.fill(0, 0, 19, said)
                .is(name + "(0, 0)", greatest == 2 ? new int[] {0, 3, 6, 4, 87}[said + 2] : said == -2 ? -1 : 0);
        }
        e.does("make(0, 9, 0)").fill(0, 2, 39, -1).is(name + "(0, 0)", greatest == 2 ? 3 : 0).fill(0, 2, 40, -1)
            .refused(name + "(0, 0)", -2).does("make(0, 9, 0)", "make(0, 9, 0)", "make(0, 9, 0)").fill(0, 2, 99, -1)
            .is(name + "(0, 0)", greatest == 2 ? 3 : 0).fill(0, 2, 100, -1).refused(name + "(0, 0)", -2);
    }

    private static void goesOfFeet(Edges e) {
        e.holds(11, "GOES of a FOOT (0 .. 99): at first all FEET CAN BE;");
        // 0 long fits 0 and 1; run 3: 98 long fits 94 .. 99.
        e.does("make(0, 9, 1)").is("goes(0)", 1).is("goes(1)", 1).is("goes(2)", -1).is("goes(98)", -1).is("goes(99)", -1)
            .does("make(0, 12, 524288)", "set(6, 0, 0)").is("goes(0)", -1).is("goes(93)", -1).is("goes(94)", 1).is("goes(98)", 1)
            .is("goes(99)", 1);
        // The hour makes no foot longer that is asked for by its length.
        e.does("set(2, 0, 23)").is("goes(94)", 1).is("goes(93)", -1).is("goes(99)", 1).is("worst(1)", 94);
        e.holds(11, "GOES. BAD; NONE.").outside("goes(%d)", 0, 99, -2).is("goes(0)", -1).is("goes(99)", -1)
            .does("make(0, 9, " + ALL + ")").outside("goes(%d)", 0, 99, -2).is("goes(50)", 1);
    }

    private static void goesCounted(Edges e) {
        e.holds(11, "how many SHOES till one FITS the FOOT (that one, too);").does("make(0, 9, 1280)");
        // 50 long first (46 .. 51), of the smaller ones 40 long (36 .. 41).
        int[][] due = {{35, -1}, {36, 2}, {37, 2}, {40, 2}, {41, 2}, {42, -1}, {45, -1}, {46, 1}, {47, 1}, {50, 1}, {51, 1}, {52,
            -1}};
        for (int[] d : due) {
            e.is("goes(" + d[0] + ")", d[1]);
        }
        e.holds(11, "again and again one FETCHES so, and those CAN BE yet of which it SAYS the same as of the FOOT:")
            .does("make(0, 9, 1344)");
        // 50 long first; of 0 .. 41, of which it says 2, 30 long; of 35 .. 41, of which that says -2, 40 long.
        int[][] third = {{21, -1}, {22, -1}, {25, -1}, {26, 2}, {31, 2}, {32, -1}, {34, -1}, {35, -1}, {36, 3}, {41, 3}, {42, -1},
            {45, -1}, {46, 1}, {51, 1}, {52, -1}, {55, -1}};
        for (int[] d : third) {
            e.is("goes(" + d[0] + ")", d[1]);
        }
        // The deepest that a search of many stocks found: eight goes.
        e.anew().does("make(5, 617, 721221)", "make(3, 704, 127764)", "make(3, 110, 143223)", "make(5, 808, 186591)",
            "make(5, 208, 605123)").is("worst(0)", 8);
    }

    private static void noGoes(Edges e) {
        e.holds(11, "NONE: ahead of one no SHOE of STOCK FITS any that CAN BE, or none of 20 FITS.").is("goes(0)", -1)
            .does("make(0, 9, 0)").is("goes(0)", -1);
        // 103 long fits 99 alone, 104 long none; -1 long fits 0 alone, -2 long none.
        e.does("set(6, 0, 524288)", "set(5, 0, 8)").is("goes(99)", 1).is("goes(98)", -1).does("set(5, 0, 9)").is("goes(99)", -1)
            .is("goes(0)", -1).does("set(6, 0, 1)", "set(5, 0, -1)").is("goes(0)", 1).is("goes(1)", -1).does("set(5, 0, -2)")
            .is("goes(0)", -1).is("goes(1)", -1);
        // 45 long ahead of 40 long: of 37 .. 40 both say one thing each, so 45 long is fetched twenty times.
        e.anew().does("make(0, 14, 256)", "make(0, 9, 256)").is("goes(35)", -1).is("goes(36)", 2).is("goes(37)", -1)
            .is("goes(40)", -1).is("goes(41)", 1).is("goes(46)", 1).is("goes(47)", -1);
        // The other way about the one that fits is the first of like ones.
        e.anew().does("make(0, 9, 256)", "make(0, 14, 256)").is("goes(35)", -1).is("goes(36)", 2).is("goes(37)", 2)
            .is("goes(40)", 2).is("goes(41)", 1).is("goes(46)", 1).is("goes(47)", -1);
    }

    private static void atWorst(Edges e) {
        e.holds(12, "AT WORST: the most (what 0; NONE: none are told), for how many none are (1).").is("worst(0)", -1)
            .is("worst(1)", 100).does("make(0, 9, 0)").is("worst(0)", -1).is("worst(1)", 100).does("set(6, 0, 256)")
            .is("worst(0)", 1).is("worst(1)", 94).does("set(6, 0, 1280)").is("worst(0)", 2).is("worst(1)", 88)
            // 104 long fits none, 103 long 99 alone.
            .does("set(6, 0, 524288)", "set(5, 0, 9)").is("worst(0)", -1).is("worst(1)", 100).does("set(5, 0, 8)")
            .is("worst(0)", 1).is("worst(1)", 99).does("set(6, 0, 1)", "set(5, 0, -1)").is("worst(0)", 1).is("worst(1)", 99)
            .does("set(5, 0, -2)").is("worst(0)", -1).is("worst(1)", 100);
        e.holds(12, "AT WORST: the most GOES of all FEET that have any, and how many have none.")
            .does("make(0, 14, 256)", "make(0, 9, 256)").is("worst(0)", 2).is("worst(1)", 93)
            .does("set(2, 0, 23)", "set(3, 0, 9)")
            .is("worst(1)", 93);
        e.holds(12, "BAD.").outside("worst(%d)", 0, 1, -2).does("make(0, 9, 256)").outside("worst(%d)", 0, 1, -2);
    }
}
