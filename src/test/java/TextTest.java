/** Promises 6 to 8: feed, text, force; and what a text tells. */
public final class TextTest {
    private static final Check CHECK = new Check("TextTest");

    public static void main(String[] args) {
        feeding();
        reading();
        fullOfTexts();
        forcing();
        faults();
        tooMuchOpen();
        expressions();
        names();
        bounds();
        wrapping();
        nothingLeftOver();
        CHECK.end();
    }

    private static void feeding() {
        HalfASize x = new HalfASize();
        CHECK.due("feed(-1)", HalfASize.BAD, x.feed(-1));
        CHECK.due("feed(256)", HalfASize.BAD, x.feed(256));
        CHECK.due("feed(MIN)", HalfASize.BAD, x.feed(Integer.MIN_VALUE));
        for (int i = 1; i <= 160; i++) {
            CHECK.due("feed", i, x.feed(i == 1 ? 0 : 255));
        }
        CHECK.due("a byte too many", HalfASize.FULL, x.feed(0));
        CHECK.due("bad ahead of full", HalfASize.BAD, x.feed(256));
        CHECK.due("bytes", 160, x.count(4));
        CHECK.due("the first byte begins no token", -100, x.text());
        CHECK.due("empty", 0, x.count(4));
        CHECK.due("feed anew", 1, x.feed(97));
    }

    private static void reading() {
        HalfASize x = new HalfASize();
        CHECK.due("an empty tape", -100, x.text());
        CHECK.due("a text", 1, Check.read(x, "swells 1;rubs 2;price 3;"));
        CHECK.due("the tape is empty", 0, x.count(4));
        CHECK.due("texts", 2, x.count(3));
        CHECK.due("the rule stays", 0, x.count(5));
        CHECK.due("blanks", 2, Check.read(x, " \n swells\n( 1 )\n; rubs-2 ;price\n3 ;\n "));
        StringBuilder longest = new StringBuilder("swells 1;rubs 2;price 11");
        while (longest.length() < 158) {
            longest.append(longest.length() % 2 == 0 ? "*" : "1");
        }
        CHECK.due("160 bytes", 3, Check.read(x, longest.append(" ;").toString()));
    }

    private static void fullOfTexts() {
        HalfASize x = new HalfASize();
        for (int i = 1; i <= 5; i++) {
            CHECK.due("text " + i, i, Check.read(x, "swells " + i + ";rubs 0;price 0;"));
        }
        CHECK.due("texts", 6, x.count(3));
        CHECK.due("full, even with nothing on the tape", HalfASize.FULL, x.text());
        CHECK.due("full ahead of a fault", HalfASize.FULL, Check.read(x, "A;"));
        CHECK.due("the tape stays", 2, x.count(4));
        for (int i = 1; i <= 5; i++) {
            x.force(i);
            CHECK.due("text " + i + " swells", 40 + i, x.told(0, 8));
        }
    }

    private static void forcing() {
        HalfASize x = new HalfASize();
        CHECK.due("force(0)", 0, x.force(0));
        CHECK.due("force(1)", HalfASize.BAD, x.force(1));
        CHECK.due("force(-1)", HalfASize.BAD, x.force(-1));
        Check.read(x, "swells 4;rubs 2;price 3;");
        Check.read(x, "swells 5;rubs 2;price 3;");
        CHECK.due("force(2)", 0, x.force(2));
        CHECK.due("the rule", 2, x.count(5));
        CHECK.due("left now", 45, x.told(0, 8));
        CHECK.due("force(1)", 2, x.force(1));
        CHECK.due("force(3)", HalfASize.BAD, x.force(3));
        CHECK.due("force(6)", HalfASize.BAD, x.force(6));
        CHECK.due("the rule stays", 1, x.count(5));
        CHECK.due("left now", 44, x.told(0, 8));
    }

    /** Each text has its fault at the place of the sign ^, which is left out. */
    private static void faults() {
        String[] texts = {
            "^", "  ^", "^rubs 1;", "^swell 1;", "^xwells 1;", "^swellss 1;", "^SWELLS 1;", "^1", "^;", "swells^", "swells ^;",
            "swells 1^", "swells 1 ^rubs 2;", "swells 1;^price 2;", "swells 1;rubs 2;^", "swells 1;rubs 2; ^swells 3;",
            "swells 1;rubs 2;price 3^", "swells 1;rubs 2;price 3 \n^", "swells 1;rubs 2;price 3;^;",
            "swells 1;rubs 2;price 3; ^swells", "swells 1;rubs 2;price 3;^\t", "swells ^12345;", "swells 1 + ^00001;",
            "swells 1 ^2;", "swells 12^hour;", "swells size ^make;", "swells ^sizes;", "swells ^hize;", "swells ^four;", "swells ^bot 1;", "swells ^siz;", "swells ^hou;", "swells ^numbers;", "swells 1 ^xr 1;", "swells ^rubs;", "swells 1 ^not 2;",
            "swells 1 + ^not 2;", "swells not ^or 1;", "swells 1 < ^not 2;", "swells 1 < 2 ^< 3;", "swells 1 = 2 ^= 3;",
            "swells 1 = 2 ^< 3;", "swells not 1 < 2 ^= 3;", "swells 1 <^= 3;", "swells ^* 2;", "swells 2 *^* 2;", "swells ^+ 2;",
            "swells 2 + ^+ 2;", "swells -^+ 2;", "swells (^);", "swells (1^;", "swells (1 ^2);", "swells 1^);", "swells (1)^(2);",
            "swells (1 or ^);", "swells 1 or^;", "swells ^and 1;", "swells - ^not 1;", "swells 1 ^/ 2;", "swells ^A;",
            "swells 1^\t+ 1;", "swells 1^\r;", "swells ^\u00e9;", "swells ^_;", "swells hour^X;", "swells (((1)^;", "swells 1 -^",
            "swells - ^", "swells not^", "swells 1 < ^;", "swells ^swells;", "swells 9999 ^price;", "swells 1^,",
        };
        for (String text : texts) {
            int place = text.indexOf('^');
            String letters = text.replace("^", "");
            HalfASize x = new HalfASize();
            CHECK.due("\"" + letters + "\"", -100 - place, Check.read(x, letters));
            CHECK.due("the tape is empty by a fault, too", 0, x.count(4));
            CHECK.due("no text came", 1, x.count(3));
        }
    }

    private static void tooMuchOpen() {
        good("(((((1)))))");
        fault("((((( (1)))))", 5 + 1);
        good("not not not not not 1");
        fault("not not not not not not 1", 20);
        good("- - - - - 1");
        fault("- - - - - - 1", 10);
        fault("-----(1)", 5);
        fault("((((( - 1)))))", 6);
        fault("((((( not 1)))))", 6);
        good("((((( 1 - 1)))))");
        good("not ( - ( - 1 ) )");
        fault("not ( - ( - (1) ) )", 12);
        good("(1) + (1) + (1) + (1) + (1) + (1) + (1)");
        good("- 1 - - 1 - - 1 - - 1 - - 1 - - 1 - - 1");
        good("not 1 and not 1 or not 1 and not 1 and not 1 and not 1");
        good("((((( 1 ))))) + ((((( 1 )))))");
        good("((((-1))))*-1");
        fault("((((-1 + -(1)))))", 10);
        good("((((not 1 or not 1 < 2))))");
        fault("((((not 1 or not 1 < (2)))))", 21);
    }

    private static void good(String e) {
        CHECK.due("\"" + e + "\"", 1, Check.read(new HalfASize(), "swells 0;rubs 0;price " + e + ";"));
    }

    private static void fault(String e, int place) {
        String ahead = "swells 0;rubs 0;price ";
        CHECK.due("\"" + e + "\"", -100 - ahead.length() - place, Check.read(new HalfASize(), ahead + e + ";"));
    }

    /** What an expression is, told by swells at hour 9 (0 .. 20). */
    private static void expressions() {
        String[][] due = {
            {"7", "7"}, {"0007", "7"}, {"1 + 2 * 3", "7"}, {"(1 + 2) * 3", "9"}, {"10 - 3 - 2", "5"}, {"10 - (3 - 2)", "9"},
            {"2 * 3 * 3", "18"}, {"1 + 10 - 2 + 1", "10"}, {"- 3 + 5", "2"}, {"- 3 * - 5", "15"}, {"- - 4", "4"}, {"-(2 - 8)", "6"},
            {"3 - - 2", "5"}, {"hour", "9"}, {"hour-foot", "9"}, {"not 0", "1"}, {"not 5", "0"}, {"not not 5", "1"}, {"not - 5", "0"},
            {"5 < 6", "1"}, {"6 < 6", "0"}, {"6 < 5", "0"}, {"6 = 6", "1"}, {"6 = 5", "0"}, {"0 - 1 < 0", "1"}, {"1 + 1 = 2", "1"},
            {"2 = 1 + 1", "1"}, {"not 6 < 5", "1"}, {"not 5 = 5", "0"}, {"5 or 0", "1"}, {"0 or 7", "1"}, {"0 or 0", "0"},
            {"7 and 3", "1"}, {"7 and 0", "0"}, {"0 and 7", "0"}, {"1 or 0 and 0", "1"}, {"(1 or 0) and 0", "0"}, {"0 and 0 or 1", "1"},
            {"not 1 or 1", "1"}, {"not (1 or 1)", "0"}, {"not 0 and 0", "0"}, {"0 - 4 and 0 - 2", "1"}, {"3 * (4 < 5) + 2", "5"},
            {"1 or 0 or 0", "1"}, {"1 and 1 and 0", "0"}, {"(5 < 6) * 7 + (6 < 5) * 8", "7"}, {"6 - 2 < 5 and 5 < 6 - 0", "1"},
            {"size + make + apart + number + foot", "0"},
        };
        for (String[] d : due) {
            HalfASize x = new HalfASize();
            Check.read(x, "swells " + d[0] + ";rubs 0;price 0;");
            x.force(1);
            CHECK.due(d[0], 40 + Integer.parseInt(d[1]), x.told(0, 8));
        }
    }

    private static void names() {
        HalfASize x = new HalfASize();
        x.make(0, 9, 0);
        x.make(2, 711, 1 << 6);
        Check.read(x, "swells foot*3 + hour - 9;rubs apart;price 0;");
        Check.read(x, "swells 0;rubs size + 10*make + 60*foot;price 0;");
        Check.read(x, "swells 0;rubs number + hour;price 0;");
        Check.read(x, "swells 0;rubs 0;price size + make + number + hour - apart - foot;");
        x.force(1);
        x.set(2, 0, 11);
        CHECK.due("left swells", 42, x.told(0, 8));
        CHECK.due("right swells", 45, x.told(0, 9));
        CHECK.due("32 inside, on 42 and 45", 10 + 13, x.pair(1));
        x.set(0, 0, 20);
        CHECK.due("apart has no sign", 10 + 13, x.pair(1));
        x.force(2);
        CHECK.due("size 6 make 1, left 16, right 76", 16 + 76, x.pair(4));
        x.force(3);
        CHECK.due("number 7, hour 11, both", 36, x.pair(1));
        x.force(4);
        CHECK.due("one shoe alone is worth as much", 0, x.pair(5));
        // Left wants size 6 of make 1, right size 9, the pair between is neither.
        Check.read(x, "swells 0;rubs (foot=0)*(size=6)*0 + 9*(foot=0)*(6<size) + 9*(foot=1)*(size<9) + (size=7);price size*size + number + make + hour;");
        x.set(6, 1, 1 << 6 | 1 << 7 | 1 << 9);
        x.force(5);
        CHECK.due("pair", 26, x.pair(0));
        CHECK.due("left", 26, x.pair(2));
        CHECK.due("right", 29, x.pair(3));
        CHECK.due("9 more; 55 less (55 and 99, the bound, by 2)", 9 + 55 - 77, x.pair(5));
    }

    private static void bounds() {
        String[][] swelling = {{"21", "20"}, {"20", "20"}, {"9999", "20"}, {"- 1", "0"}, {"-9999", "0"}, {"19", "19"}};
        for (String[] s : swelling) {
            HalfASize x = new HalfASize();
            Check.read(x, "swells " + s[0] + ";rubs 0;price 0;");
            x.force(1);
            CHECK.due("swells " + s[0], 40 + Integer.parseInt(s[1]), x.told(0, 8));
        }
        String[][] rubbing = {{"100", "198"}, {"99", "198"}, {"98", "196"}, {"- 1", "0"}, {"9999", "198"}};
        for (String[] r : rubbing) {
            HalfASize x = new HalfASize();
            x.make(0, 9, 1);
            Check.read(x, "swells 0;rubs " + r[0] + ";price 0;");
            x.force(1);
            CHECK.due("rubs " + r[0], Integer.parseInt(r[1]), x.pair(1));
        }
        // The pair is size 0; left wants 0, right 1: worth is 1 and the first price less half of both.
        String[][] prices = {{"100 - 100*size", "51"}, {"99 - 99*size", "51"}, {"200 - 199*size", "50"}, {"- 5 - size", "1"}, {"(foot + apart)*50*(size=0)", "1"}, {"98 - 98*size", "50"}, {"size*98", "-48"}};
        for (String[] p : prices) {
            HalfASize x = new HalfASize();
            x.make(0, 9, 3);
            Check.read(x, "swells 0;rubs (size=0)*(foot=1) + (size=1)*(foot=0);price " + p[0] + ";");
            x.force(1);
            CHECK.due("price " + p[0], Integer.parseInt(p[1]), x.pair(5));
        }
    }

    /** A text that follows a longer one, good or faulty, has nothing of it behind its last part. */
    private static void nothingLeftOver() {
        String rubs = "swells 0;rubs (size=0)*(foot=1) + (size=1)*(foot=0);price ";
        for (String earlier : new String[] {"not 50;", "-50;", "not 50", "50*2;", "50+7;"}) {
            HalfASize x = new HalfASize();
            x.make(0, 9, 3);
            Check.read(x, rubs + earlier);
            x.force(Check.read(x, rubs + "size;"));
            CHECK.due("size 0 costs 0, size 1 costs 1, behind " + earlier, 1, x.pair(5));
        }
    }

    private static void wrapping() {
        String[][] due = {
            {"9999*9999*9999*9999 < 0", "0"}, {"9999*9999*22 < 0", "1"}, {"9999*9999*43 - 9999*417 - 3146", "18"},
            {"2048*1024*1024 < 0", "1"}, {"- (2048*1024*1024) < 0", "1"}, {"2048*1024*1024 - 1 < 0", "0"},
            {"4096*1024*1024", "0"}, {"4096*1024*1024 + 5", "5"},
        };
        for (String[] d : due) {
            HalfASize x = new HalfASize();
            Check.read(x, "swells " + d[0] + ";rubs 0;price 0;");
            x.force(1);
            CHECK.due(d[0], 40 + Integer.parseInt(d[1]), x.told(0, 8));
        }
    }
}
