/** Boundary sentences of promises 25 to 29: sheet, cell, copy, town, taken. */
final class HostEdges {
    private static final int MIN = Integer.MIN_VALUE, MAX = Integer.MAX_VALUE;

    private HostEdges() {
    }

    static void hold(Edges e) {
        becoming(e);
        becomingWrongly(e);
        cells(e);
        lowestBits(e);
        copies(e);
        overlapping(e);
        copiesWrongly(e);
        copiesOutside(e);
        towns(e);
        townsWrongly(e);
        townsOutside(e);
        takings(e);
        takingsWrongly(e);
    }

    /** A sheet's sort and size, -1 if it is missing. */
    private static void isSheet(Edges e, int sheet, int sort, int size) {
        for (int s = 0; s < 3; s++) {
            e.is("town(" + sheet + ", " + s + ", 0, 0)", sort < 0 ? -11 : sort == s ? 0 : -13);
        }
        if (sort < 0) {
            e.refused("cell(" + sheet + ", 0, 0)", -11);
        } else {
            String all = "copy(" + sheet + ", 0, " + sheet + ", 0, ";
            e.is(all + size + ")", size).refused(all + (size + 1) + ")", -12)
                .refused("cell(" + sheet + ", " + size + ", 9)", -12);
        }
    }

    private static void becoming(Edges e) {
        e.holds(25, "A SHEET becomes a row of n of a sort, all 0, or missing (sort -1: n does not matter): 1.");
        for (int sheet = 0; sheet < 4; sheet++) {
            e.anew();
            for (int n : new int[] {0, 1, 39, 40}) {
                e.is("sheet(" + sheet + ", " + n % 3 + ", " + n + ")", 1);
                isSheet(e, sheet, n % 3, n);
            }
            for (int n : new int[] {0, -1, 40, 41, MIN, MAX}) {
                e.is("sheet(" + sheet + ", 2, 1)", 1).is("sheet(" + sheet + ", -1, " + n + ")", 1);
                isSheet(e, sheet, -1, 0);
            }
            e.is("sheet(" + sheet + ", -1, 0)", 1).refused("cell(" + (3 - sheet) + ", 0, 0)", -11);
        }
        // All 0, whatever was there: shoe 0 that says 0, twenty times, and foot 0 that nobody has.
        e.anew().does("make(0, 9, 0)", "sheet(1, 2, 40)");
        for (int i = 0; i < 40; i++) {
            e.does("cell(1, " + i + ", 7)");
        }
        e.does("set(3, 0, 9)").is("sheet(1, 2, 40)", 1).is("canBe(1, 0)", 2).is("town(1, 2, 0, 20)", 20).is("told(0, 3)", 0)
            .is("told(7, 3)", 0).does("cell(1, 0, 7)", "sheet(1, 2, 2)", "sheet(1, 2, 40)").is("canBe(1, 0)", 2);
        e.holds(25, "SHEETS 0 .. 3 are rows of numbers, or missing (as all are at first): of sort 0 bytes, 1 shorts, 2 ints.");
        for (int sheet = 0; sheet < 4; sheet++) {
            isSheet(e, sheet, -1, 0);
            e.is("sheet(" + sheet + ", " + sheet % 3 + ", 2)", 1);
            isSheet(e, sheet, sheet % 3, 2);
        }
    }

    private static void becomingWrongly(Edges e) {
        e.holds(25, "BAD: no such SHEET, sort; n above 40; -14.").fill(0, 1, 10, 2).fill(3, 2, 11, 3)
            .outside("sheet(%d, 0, 0)", 0, 3, -2).outside("sheet(%d, -1, 0)", 0, 3, -2).outside("sheet(0, %d, 0)", -1, 2, -2)
            .refused("sheet(0, 0, 41)", -2).refused("sheet(3, 2, 42)", -2).refused("sheet(1, 1, " + MAX + ")", -2)
            .refused("sheet(0, 0, -1)", -14).refused("sheet(3, 2, -2)", -14).refused("sheet(1, 1, " + MIN + ")", -14)
            .outside("sheet(%d, 0, -1)", 0, 3, -2).outside("sheet(%d, 0, 41)", 0, 3, -2).outside("sheet(0, %d, -1)", -1, 2, -2)
            .outside("sheet(0, %d, 41)", -1, 2, -2).is("sheet(0, 0, 40)", 1).is("sheet(0, 0, 0)", 1);
        e.holds(25, "the host's: -11 nothing where something is asked, -12 a place outside, -13 a thing of another sort or KIND, "
            + "-14 a size below 0.").does("make(0, 9, 1)", "sheet(0, 0, 2)").refused("cell(1, 0, 0)", -11)
                .refused("cell(0, 2, 0)", -12)
            .refused("town(0, 1, 0, 1)", -13).refused("taken(0, 1)", -13).refused("taken(1, 0)", -11)
            .refused("sheet(0, 0, -1)", -14);
    }

    private static void cells(Edges e) {
        e.holds(26, "BAD: no such SHEET; -11; -12.").does("sheet(0, 0, 1)", "sheet(1, 1, 40)", "sheet(3, 2, 0)")
            .outside("cell(%d, 0, 5)", 0, 3, -2).outside("cell(%d, 99, 5)", 0, 3, -2).refused("cell(2, 0, 5)", -11)
            .refused("cell(2, -1, 5)", -11).refused("cell(2, 40, 5)", -11).outside("cell(0, %d, 5)", 0, 0, -12)
            .is("cell(0, 0, 5)", 1)
            .outside("cell(1, %d, 5)", 0, 39, -12).is("cell(1, 0, 5)", 1).is("cell(1, 1, 5)", 1).is("cell(1, 38, 5)", 1)
            .is("cell(1, 39, 5)", 1).outside("cell(3, %d, 5)", 0, -1, -12).refused("cell(3, 0, 5)", -12);
        // The last one's place: rows of two begin at 38, none at 39.
        e.does("set(3, 5, 0)").is("town(1, 1, 38, 1)", 1).is("told(5, 3)", 5).refused("town(1, 1, 39, 1)", -12);
    }

    /** In each sort, whether a number is taken for foot 44, and whether it is what a shoe says. */
    private static void kept(Edges e, int v, boolean... isFoot44) {
        for (int sort = 0; sort < 3; sort++) {
            e.fill(0, sort, v, 9).does("set(3, 44, 0)").is("town(0, " + sort + ", 0, 1)", isFoot44[sort] ? 1 : 0)
                .is("told(44, 3)", isFoot44[sort] ? 9 : 0);
        }
    }

    private static void said(Edges e, int v, int... many) {
        for (int sort = 0; sort < 3; sort++) {
            e.fill(0, sort, 8, v).is("canBe(0, 0)", many[sort]);
        }
    }

    private static void lowestBits(Edges e) {
        e.holds(26, "Item i of a SHEET becomes v (of bytes, shorts its lowest 8, 16 bits): 1.");
        kept(e, 44, true, true, true);
        kept(e, 44 + 128, false, false, false);
        kept(e, 44 + 256, true, false, false);
        kept(e, 44 - 256, true, false, false);
        kept(e, 44 - 128, false, false, false);
        kept(e, 44 + 32768, true, false, false);
        kept(e, 44 + 65536, true, true, false);
        e.anew();
        kept(e, 44 - 65536, true, true, false);
        kept(e, 44 + 512 + 65536, true, false, false);
        kept(e, 44 + MIN, true, true, false);
        e.anew().does("make(0, 9, 0)");
        // As a shoe says: 6 feet 0, 3 feet -1, 55 feet -2, 32 feet 2, all else is none such.
        said(e, -1, 3, 3, 3);
        said(e, 255, 3, -2, -2);
        said(e, 65535, 3, 3, -2);
        said(e, MAX, 3, 3, -2);
        said(e, 254, 55, -2, -2);
        said(e, 65534, 55, 55, -2);
        said(e, 256, 6, -2, -2);
        said(e, 65536, 6, 6, -2);
        said(e, MIN, 6, 6, -2);
        said(e, 127, -2, -2, -2);
        said(e, 128, -2, -2, -2);
        said(e, 32768, 6, -2, -2);
        said(e, 258, 32, -2, -2);
        e.anew();
        int[] bytes = {99, 9, 100, 9, 256, 7, -157, 6};
        e.fill(0, 0, bytes).is("town(0, 0, 0, 4)", 3).is("told(99, 3)", 6).is("told(0, 3)", 7);
        e.fill(0, 2, bytes).is("town(0, 2, 0, 4)", 1).is("told(99, 3)", 9).is("told(0, 3)", 7);
    }

    /** What a sheet of ints holds: feet that each only one has, told by who has which. */
    private static Edges rows(Edges e, int sheet, int... feet) {
        for (int i = 0; i < feet.length; i++) {
            e.does("set(3, " + feet[i] + ", 0)").is("town(" + sheet + ", 2, " + 2 * i + ", 1)", 1)
                .is("told(" + feet[i] + ", 3)", 1)
                .does("set(3, " + feet[i] + ", 0)");
        }
        return e;
    }

    private static void copies(Edges e) {
        e.holds(27, "n numbers of a SHEET, from item i on, come to another one's item j on (as they were): n.");
        e.fill(0, 2, 10, 1, 11, 1, 12, 1).fill(1, 2, 20, 1, 21, 1, 22, 1).is("copy(0, 0, 1, 0, 0)", 0);
        rows(e, 1, 20, 21, 22).is("copy(0, 0, 1, 0, 1)", 1);
        rows(e, 1, 10, 21, 22).is("copy(0, 2, 1, 4, 2)", 2);
        rows(e, 1, 10, 21, 11).is("copy(0, 0, 1, 0, 6)", 6);
        rows(e, 1, 10, 11, 12);
        rows(e, 0, 10, 11, 12);
        e.anew().does("sheet(0, 1, 40)", "sheet(3, 1, 40)", "cell(0, 0, 5)", "cell(0, 1, 6)").is("copy(0, 0, 3, 0, 40)", 40)
            .is("copy(0, 0, 3, 38, 2)", 2).is("town(3, 1, 38, 1)", 1).is("told(5, 3)", 6).is("copy(0, 39, 3, 0, 1)", 1)
            .is("copy(0, 0, 3, 39, 1)", 1).is("town(3, 1, 38, 1)", 1).is("told(5, 3)", 5);
    }

    private static void overlapping(Edges e) {
        e.holds(27, "(as they were): n.").fill(0, 2, 10, 1, 11, 1, 12, 1).is("copy(0, 0, 0, 2, 4)", 4);
        rows(e, 0, 10, 10, 11).fill(0, 2, 10, 1, 11, 1, 12, 1).is("copy(0, 2, 0, 0, 4)", 4);
        rows(e, 0, 11, 12, 12).fill(0, 2, 10, 1, 11, 1, 12, 1).is("copy(0, 0, 0, 0, 6)", 6);
        rows(e, 0, 10, 11, 12);
    }

    private static void copiesWrongly(Edges e) {
        e.holds(27, "BAD: no such SHEET; -11; -13: they are of unlike sorts; -12 (also with n below 0).")
            .fill(0, 0, 10, 1, 11, 2).fill(1, 0, 12, 3).fill(2, 2, 13, 4, 14, 5);
        e.outside("copy(%d, 0, 0, 0, 0)", 0, 3, -2).outside("copy(0, 0, %d, 0, 0)", 0, 3, -2)
            .outside("copy(%d, 0, 3, 9, 9)", 0, 3, -2)
            .outside("copy(3, 9, %d, 0, 9)", 0, 3, -2).refused("copy(4, 9, -1, 9, -1)", -2);
        e.refused("copy(3, 0, 0, 0, 0)", -11).refused("copy(0, 0, 3, 0, 0)", -11).refused("copy(3, 0, 3, 0, 0)", -11)
            .refused("copy(3, -1, 2, 9, 9)", -11).refused("copy(2, 9, 3, -1, -1)", -11);
        e.refused("copy(0, 0, 2, 0, 1)", -13).refused("copy(2, 0, 0, 0, 0)", -13).refused("copy(0, -1, 2, 0, 1)", -13)
            .refused("copy(0, 0, 2, 9, 1)", -13).refused("copy(2, 0, 0, 0, -1)", -13)
            .refused("copy(2, 0, 0, 0, " + MAX + ")", -13);
        e.is("copy(0, 2, 1, 0, 2)", 2).is("town(1, 0, 0, 1)", 1).is("told(11, 3)", 2);
        e.anew().fill(0, 0, 10, 1).fill(1, 1, 10, 1).fill(2, 2, 10, 1).refused("copy(0, 0, 1, 0, 1)", -13)
            .refused("copy(1, 0, 2, 0, 1)", -13).refused("copy(2, 0, 0, 0, 1)", -13).does("sheet(1, 0, 2)")
            .is("copy(0, 0, 1, 0, 1)", 1);
    }

    private static void copiesOutside(Edges e) {
        e.holds(27, "-12 (also with n below 0).").fill(0, 1, 10, 1, 11, 2).fill(1, 1, 12, 3, 13);
        // Of four to three: as many as there are behind i, and as have room behind j.
        for (int i = 0; i <= 4; i++) {
            for (int j = 0; j <= 3; j++) {
                int most = Math.min(4 - i, 3 - j);
                e.anew().fill(0, 1, 10, 1, 11, 2).fill(1, 1, 12, 3, 13);
                String call = "copy(0, " + i + ", 1, " + j + ", ";
                e.outside(call + "%d)", 0, most, -12).is(call + "0)", 0).is(call + most + ")", most);
            }
        }
        for (int n : new int[] {0, 1, -1, MAX, MIN}) {
            e.anew().fill(0, 1, 10, 1, 11, 2).fill(1, 1, 12, 3, 13);
            e.outside("copy(0, %d, 1, 0, " + n + ")", 0, 4, -12).outside("copy(0, 0, 1, %d, " + n + ")", 0, 3, -12);
        }
        e.anew().does("sheet(0, 0, 0)").is("copy(0, 0, 0, 0, 0)", 0).outside("copy(0, 0, 0, 0, %d)", 0, 0, -12)
            .outside("copy(0, %d, 0, 0, 0)", 0, 0, -12).outside("copy(0, 0, 0, %d, 0)", 0, 0, -12)
            .outside("copy(0, %d, 0, " + MAX + ", " + MAX + ")", 0, 0, -12);
    }

    private static void towns(Edges e) {
        e.holds(28, "two by two (a FOOT, how many have it), n of them (0 .. 20): how many became so (others are left out).");
        int[] rows = {0, 9, 99, 1, -1, 5, 100, 5, 50, -1, 51, 10, 52, 0, 53, 8};
        for (int sort = 0; sort < 3; sort++) {
            e.anew().does("set(3, 50, 4)", "set(3, 51, 4)", "set(3, 52, 4)").fill(0, sort, rows)
                .is("town(0, " + sort + ", 0, 8)", 4)
                .is("told(0, 3)", 9).is("told(99, 3)", 1).is("told(50, 3)", 4).is("told(51, 3)", 4).is("told(52, 3)", 0)
                .is("told(53, 3)", 8).is("count(2)", 9 + 1 + 4 + 4 + 8);
        }
        e.anew().fill(0, 2, MIN, 5, MAX, 5, 10, MIN, 11, MAX, 12, 5).is("town(0, 2, 0, 5)", 1).is("count(2)", 5)
            .is("told(12, 3)", 5);
        // n: none, one, all twenty; the later of two counts.
        e.anew().does("sheet(3, 0, 40)");
        for (int row = 0; row < 20; row++) {
            e.does("cell(3, " + 2 * row + ", " + row + ")", "cell(3, " + (2 * row + 1) + ", 1)");
        }
        e.is("town(3, 0, 0, 0)", 0).is("count(2)", 0).is("town(3, 0, 0, 1)", 1).is("count(2)", 1).is("town(3, 0, 0, 19)", 19)
            .is("count(2)", 19).is("town(3, 0, 0, 20)", 20).is("count(2)", 20).is("told(19, 3)", 1)
            .does("cell(3, 38, 0)", "cell(3, 39, 7)")
            .is("town(3, 0, 0, 20)", 20).is("told(0, 3)", 7);
        e.holds(28, "THE TOWN by a SHEET that is taken for one of a sort: from one on").fill(0, 2, 1, 2, 3, 4, 5, 6)
            .is("town(0, 2, 1, 2)", 2)
            .is("told(2, 3)", 3).is("told(4, 3)", 5).is("count(2)", 8).is("town(0, 2, 4, 1)", 1).is("told(5, 3)", 6)
            .is("town(0, 2, 2, 0)", 0);
    }

    private static void townsWrongly(Edges e) {
        e.holds(28, "BAD: no such SHEET, sort, n; -13; -11; -12: what stood ahead became so.").fill(0, 1, 10, 1, 11, 2)
            .fill(3, 2, 12, 3);
        e.outside("town(%d, 1, 0, 1)", 0, 3, -2).outside("town(0, %d, 0, 1)", 0, 2, -2).outside("town(0, 1, 0, %d)", 0, 20, -2)
            .outside("town(1, %d, 0, 1)", 0, 2, -2).outside("town(1, 0, 0, %d)", 0, 20, -2)
            .outside("town(0, 0, 0, %d)", 0, 20, -2)
            .outside("town(%d, 1, 9, 1)", 0, 3, -2).outside("town(0, %d, 9, 1)", 0, 2, -2)
            .outside("town(0, 1, 9, %d)", 0, 20, -2);
        e.refused("town(0, 0, 0, 1)", -13).refused("town(0, 2, 0, 1)", -13).refused("town(3, 0, 0, 1)", -13)
            .refused("town(3, 1, 0, 1)", -13)
            .refused("town(0, 2, -1, 1)", -13).refused("town(0, 0, 4, 1)", -13).refused("town(0, 0, 0, 0)", -13)
            .refused("town(0, 0, 0, 20)", -13);
        for (int sort = 0; sort < 3; sort++) {
            e.refused("town(1, " + sort + ", 0, 1)", -11).refused("town(1, " + sort + ", -1, 1)", -11)
                .refused("town(2, " + sort + ", 99, 20)", -11).refused("town(2, " + sort + ", 0, 0)", -11);
        }
        e.is("town(0, 1, 0, 2)", 2).is("town(3, 2, 0, 1)", 1).is("count(2)", 6);
    }

    private static void townsOutside(Edges e) {
        e.holds(28, "-12: what stood ahead became so.").fill(0, 1, 10, 1, 11, 2, 12).outside("town(0, 1, %d, 1)", 0, 3, -12)
            .refused("town(0, 1, 5, 1)", -12).refused("town(0, 1, -2, 2)", -12).refused("town(0, 1, -2, 20)", -12)
            .refused("town(0, 1, " + MAX + ", 20)", -12).refused("town(0, 1, " + MIN + ", 20)", -12)
            .is("town(0, 1, 0, 3)", -12).is("told(10, 3)", 1).is("told(11, 3)", 2).is("told(12, 3)", 0).is("count(2)", 3)
            .does("set(3, 10, 0)", "set(3, 11, 0)").is("town(0, 1, 2, 2)", -12).is("count(2)", 2).is("told(11, 3)", 2)
            .does("set(3, 11, 0)").is("town(0, 1, 1, 20)", -12).is("count(2)", 0).is("town(0, 1, 0, 2)", 2)
            .is("town(0, 1, 3, 1)", 0);
        // A place outside with none to be read is not asked for.
        e.is("town(0, 1, 5, 0)", 0).is("town(0, 1, -1, 0)", 0).is("count(2)", 3);
        e.anew().does("sheet(0, 0, 0)", "sheet(1, 0, 1)").refused("town(0, 0, 0, 1)", -12).refused("town(1, 0, 0, 1)", -12)
            .is("town(0, 0, 0, 0)", 0).does("cell(1, 0, 100)").refused("town(1, 0, 0, 1)", -12);
        e.anew().does("sheet(0, 2, 40)", "cell(0, 0, 9)", "cell(0, 1, 9)").is("town(0, 2, 1, 20)", -12).is("told(9, 3)", 0)
            .is("town(0, 2, 0, 20)", 20).is("told(9, 3)", 9).refused("town(0, 2, 39, 1)", -12).is("town(0, 2, 38, 2)", -12);
    }

    private static void takings(Edges e) {
        e.holds(29, "A MAKE taken for one of KIND k (0 .. 5), or one under that one (also by others between): its NUMBER.");
        // For each kind, the kinds it is taken for.
        String[] above = {"0", "01", "02", "013", "024", "05"};
        for (int kind = 0; kind < 6; kind++) {
            e.anew().does("make(" + kind + ", " + (100 * kind + 409) + ", 1)");
            for (int k = 0; k < 6; k++) {
                if (above[kind].indexOf('0' + k) >= 0) {
                    e.is("taken(0, " + k + ")", kind + 4);
                } else {
                    e.refused("taken(0, " + k + ")", -13);
                }
            }
            e.does("set(4, 0, 0)").is("taken(0, " + kind + ")", 0).does("set(4, 0, 9)").is("taken(0, 0)", 9);
        }
    }

    private static void takingsWrongly(Edges e) {
        e.holds(29, "BAD: k; -11: no such MAKE; -13.").refused("taken(0, 0)", -11).outside("taken(0, %d)", 0, 5, -2)
            .does("make(1, 509, 1)").outside("taken(0, %d)", 0, 5, -2).outside("taken(1, %d)", 0, 5, -2)
            .outside("taken(-1, %d)", 0, 5, -2)
            .outside("taken(%d, 1)", 0, 0, -11).outside("taken(%d, 5)", 0, 0, -11).refused("taken(0, 2)", -13)
            .refused("taken(0, 3)", -13)
            .refused("taken(0, 5)", -13).is("taken(0, 0)", 5).is("taken(0, 1)", 5)
            .does("make(2, 9, 1)", "make(3, 9, 1)", "make(4, 9, 1)", "make(5, 709, 1)").outside("taken(%d, 0)", 0, 4, -11)
            .is("taken(4, 5)", 7).is("taken(4, 0)", 7).refused("taken(4, 4)", -13);
    }
}
