import java.util.ArrayList;
import java.util.List;

/** Boundary sentences of promises 6 to 8: feed, text, force; and of what a text tells. */
final class TextEdges {
    private TextEdges() {
    }

    static void hold(Edges e) {
        feeding(e);
        tapeEmptied(e);
        placesOfFaults(e);
        tooManyTexts(e);
        tokens(e);
        everyByte(e);
        parts(e);
        grammar(e);
        keysAndNames(e);
        values(e);
        faults(e);
        tooMuchOpen(e);
        openTill(e);
        forcing(e);
    }

    /** A text with its fault at the place of the sign ^, which is left out; nothing is kept of it. */
    private static void fault(Edges e, String... texts) {
        for (String text : texts) {
            int place = text.indexOf('^');
            e.anew().type(text.replace("^", "")).is("text()", -100 - place).is("count(4)", 0).is("count(3)", 1);
        }
    }

    private static void good(Edges e, String... texts) {
        for (String text : texts) {
            e.anew().type(text).is("text()", 1).is("count(4)", 0).is("count(3)", 2);
        }
    }

    /** An expression that is 0 .. 20, told by how much it makes a foot swell. */
    private static void value(Edges e, String expression, int due) {
        e.anew().type("swells " + expression + ";rubs 0;price 0;").is("text()", 1).does("force(1)").is("told(0, 8)", 40 + due);
    }

    private static void feeding(Edges e) {
        e.holds(6, "A byte (0 .. 255) comes behind THE TAPE: how many it has.").outside("feed(%d)", 0, 255, -2)
            .is("feed(0)", 1).is("feed(1)", 2).is("feed(254)", 3).is("feed(255)", 4).is("count(4)", 4)
            .outside("feed(%d)", 0, 255, -2);
        e.holds(6, "A TEXT is read from THE TAPE (160 bytes at most).");
        String blanks = " ".repeat(134);
        String text = "swells 1;rubs 2;price 30 ;";
        e.type(blanks + text.substring(0, 24)).is("count(4)", 158).is("feed(32)", 159).is("feed(59)", 160)
            .refused("feed(59)", -4).refused("feed(32)", -4).is("count(4)", 160).is("text()", 1);
        // As many tokens as bytes.
        e.anew().type(";".repeat(160)).is("count(4)", 160).is("text()", -100).type("swells " + "(".repeat(153)).is("text()", -112)
            .is("count(4)", 0);
        e.holds(6, "BAD; FULL.").type(" ".repeat(159)).refused("feed(256)", -2).is("feed(255)", 160).refused("feed(0)", -4)
            .refused("feed(255)", -4).refused("feed(256)", -2).refused("feed(-1)", -2).is("count(4)", 160)
            .is("text()", -100 - 159).is("feed(0)", 1);
    }

    private static void tapeEmptied(Edges e) {
        e.holds(7, "THE TAPE, which is empty then (by a FAULT, too), is a TEXT: its number;")
            .type("swells 1;rubs 2;price 3;").is("count(4)", 24).is("text()", 1).is("count(4)", 0).is("text()", -100)
            .type("swells").is("text()", -106).is("count(4)", 0).is("feed(115)", 1).is("text()", -100).is("count(3)", 2)
            .is("count(5)", 0);
        // A fault changes nothing but the tape.
        e.does("force(1)", "set(2, 0, 20)").type("swells 9;rubs 9;price 9").is("text()", -123).is("count(3)", 2)
            .is("count(5)", 1).is("told(0, 8)", 41).type("swells 2;rubs 2;price 3;").is("text()", 2)
            .is("told(0, 8)", 41).does("force(2)").is("told(0, 8)", 42);
    }

    private static void placesOfFaults(Edges e) {
        e.holds(7, "-100 less the place of its FAULT.").is("text()", -100).type("A").is("text()", -100).type(" A")
            .is("text()", -101).type(" ".repeat(159) + "A").is("text()", -259);
        e.type(" ".repeat(160)).is("text()", -260);
        String text = "swells 1;rubs 2;price 3;";
        for (int size = 0; size < text.length(); size++) {
            // Cut off within a word, the word is what can't stand there.
            int inWord = size > 0 && size < 6 ? 0 : size > 9 && size < 13 ? 9 : size > 16 && size < 21 ? 16 : size;
            e.anew().type(text.substring(0, size)).is("text()", -100 - inWord);
        }
    }

    private static void tooManyTexts(Edges e) {
        e.holds(7, "There are 6 TEXTS at most, TEXT 0 with them.");
        for (int text = 1; text <= 5; text++) {
            e.is("count(3)", text).type("swells " + text + ";rubs 0;price 0;").is("text()", text);
        }
        e.is("count(3)", 6).type("swells 6;rubs 0;price 0;").refused("text()", -4).is("count(3)", 6).does("force(5)")
            .is("told(0, 8)", 45).refused("force(6)", -2);
        // Long ones, one of which has a fault, leave nothing behind for the next.
        e.anew();
        String longOne = "swells " + "0+".repeat(60);
        e.type(longOne + "1;rubs 0;price 0;").is("text()", 1).type(longOne + "2;rubs 0;price 0").is("text()", -243)
            .type(longOne + "3;rubs 0;price 0;").is("text()", 2).does("force(2)").is("told(0, 8)", 43).does("force(1)")
            .is("told(0, 8)", 41);
        e.holds(7, "FULL (ahead of all): no TEXT more has room (THE TAPE stays).");
        for (int text = 1; text <= 4; text++) {
            e.type("swells 0;rubs 0;price 0;").is("text()", text);
        }
        e.type("A").is("text()", -100).is("count(4)", 0).type("swells 0;rubs 0;price 0;").is("text()", 5)
            .refused("text()", -4).type("A").refused("text()", -4).is("count(4)", 1).type("B").is("count(4)", 2)
            .refused("text()", -4).is("feed(32)", 3);
    }

    private static void tokens(Edges e) {
        e.holds(7, "TOKENS, each as long as can be: WORDS (a .. z), NUMBERS");
        good(e, "swells1;rubs1;price1;", "swells(1)or(2);rubs not(1);price 1or 2;", "swells 0or1and 2;rubs hour*size;price-foot;",
            "swells not 1;rubs(not 1);price 1<2;");
        fault(e, "^swellss 1;", "^notnot 1;", "swells ^notnot 1;", "swells ^orr 1;", "swells 1 ^orr 1;", "swells ^sizemake;",
            "swells hour^1;", "swells 1^hour;", "swells 12 ^34;", "swells not^;", "^swe lls 1;", "swells ^ho;",
            "swells 1 ^orand 1;");
        e.holds(7, "(as many digits as stand there, 4 at most)");
        value(e, "7", 7);
        value(e, "17", 17);
        value(e, "017", 17);
        value(e, "0017", 17);
        value(e, "0000", 0);
        value(e, "9999 - 9990", 9);
        value(e, "1000 = 999 + 1", 1);
        fault(e, "swells ^00017;", "swells ^00000;", "swells ^10000;", "swells 1+^12345;", "swells ^12345", "swells 1234 ^5;");
        e.holds(7, "SIGNS ( ) ; + - * < = ; blanks (32, 10) may stand between.");
        good(e, "swells 1;rubs 2;price 3;", " swells 1 ; rubs 2 ; price 3 ; ", "\nswells\n1\n;\nrubs\n2\n;\nprice\n3\n;\n",
            "  \n\nswells  (  1  )  +  2  *  3  -  4  <  5  ;  rubs  6  =  7  ;  price  -  8  ;  \n \n ");
        fault(e, "^\tswells 1;", "swells^\t1;", "swells 1;rubs 2;price 3;^\r", "swells 1;^\0rubs", "swells^!1;",
            "swells^\u001f1;");
    }

    /** Each byte where a sign could stand, and where a number, a name or what opens could. */
    private static void everyByte(Edges e) {
        e.holds(7, "also of a byte that begins none");
        for (int letter = 0; letter < 256; letter++) {
            boolean blank = letter == 32 || letter == 10;
            boolean behind = blank || letter < 128 && ";+-*<=".indexOf(letter) >= 0;
            boolean ahead = blank || letter < 128 && "(-0123456789".indexOf(letter) >= 0;
            e.anew().type("swells 1 ").is("feed(" + letter + ")", 10).is("text()", behind ? -110 : -109);
            e.type("swells ").is("feed(" + letter + ")", 8).is("text()", ahead ? -108 : -107);
            e.is("feed(" + letter + ")", 1).is("text()", blank ? -101 : -100);
            // Right behind a word, and right behind a number.
            boolean small = letter >= 'a' && letter <= 'z';
            boolean digit = letter >= '0' && letter <= '9';
            e.type("swells hour").is("feed(" + letter + ")", 12).is("text()", small ? -107 : behind ? -112 : -111);
            e.type("swells 123").is("feed(" + letter + ")", 11).is("text()", digit || behind ? -111 : -110);
            e.type("swells 1234").is("feed(" + letter + ")", 12).is("text()", digit ? -107 : behind ? -112 : -111);
        }
        fault(e, "swells 1 + ^/ 2;", "swells (1^>2);", "swells 1;rubs 2;price 3;^.", "swells hour^A;", "swells 1^_;");
    }

    private static void parts(Edges e) {
        e.holds(7, "TEXT: swells E ; rubs E ; price E ; E: AND { or AND }.");
        good(e, "swells 1;rubs 2;price 3;", "swells 1 or 2 or 3;rubs 2 or 0;price 3;");
        fault(e, "^", "^rubs 1;price 2;swells 3;", "^price 1;", "^1;", "^;", "swells^", "swells ^;", "swells ^rubs;", "swells 1^",
            "swells 1 ^rubs 2;", "swells 1;^", "swells 1;^price 2;", "swells 1;^swells 2;", "swells 1;^;", "swells 1;rubs^",
            "swells 1;rubs ^;", "swells 1;rubs 2^", "swells 1;rubs 2 ^price 3;", "swells 1;rubs 2;^", "swells 1;rubs 2;^rubs 3;",
            "swells 1;rubs 2;price^", "swells 1;rubs 2;price ^;", "swells 1;rubs 2;price 3^", "swells 1;rubs 2;price 3;^;",
            "swells 1;rubs 2;price 3; ^swells 1;rubs 2;price 3;", "swells 1;rubs 2;price 3;^1");
        value(e, "1 or 0 and 0", 1);
        value(e, "0 and 0 or 1", 1);
        value(e, "(1 or 0) and 0", 0);
        fault(e, "swells ^or 1;", "swells 1 or ^;", "swells 1 or^", "swells 1 or ^or 2;", "swells 1 or 2 ^3;");
        // Of 160 bytes: as many as the tape has room for.
        good(e, "swells 1;rubs 2;price 3" + " or 4".repeat(27) + ";", "swells 1;rubs 2;price 3" + "*4".repeat(68) + ";");
        good(e, "swells " + "1+".repeat(68) + "1;rubs 2;price 3;");
        e.anew().type("swells 1;rubs 2;price 3" + "*4".repeat(68)).is("count(4)", 159).is("text()", -259);
    }

    private static void grammar(Edges e) {
        e.holds(7, "AND: NOT { and NOT }.");
        good(e, "swells 1 and 2;rubs 1 and 2 and 3;price not 1 and not 2;");
        fault(e, "swells ^and 1;", "swells 1 and ^;", "swells 1 and ^and 2;", "swells 1 or ^and 2;", "swells 1 and ^or 2;");
        e.holds(7, "NOT: not NOT, or SUM, perhaps < or = and a SUM.");
        good(e, "swells 1;rubs 1<2;price 1=2;", "swells not 1;rubs not not 1;price not 1<2;",
            "swells (1<2)<3;rubs 1<(2=3);price not 1=2;");
        value(e, "not 0 and 0", 0);
        value(e, "not 1 or 1", 1);
        value(e, "not 1 < 0", 1);
        value(e, "1 + 2 < 4", 1);
        value(e, "7 = 2 + 5", 1);
        fault(e, "swells 1<2^<3;", "swells 1<2^=3;", "swells 1=2^=3;", "swells 1=2^<3;", "swells not 1<2^<3;", "swells 1<^<2;",
            "swells ^<1;", "swells ^=1;", "swells 1<^;", "swells 1=^;", "swells 1<^not 2;", "swells 1=^not 2;", "swells not ^;",
            "swells 1 ^not 2;", "swells not ^<1;");
        e.holds(7, "SUM: TERM { + or - TERM }.");
        good(e, "swells 1+2;rubs 1-2-3;price 1+2-3+4;");
        value(e, "9 - 2 - 3", 4);
        value(e, "9 - 2 + 3", 10);
        value(e, "9 - 2 * 3", 3);
        fault(e, "swells ^+1;", "swells 1+^;", "swells 1-^;", "swells 1+^+2;", "swells 1-^+2;", "swells 1+^not 2;",
            "swells 1+^or 2;");
        e.holds(7, "TERM: ONE { * ONE }.");
        good(e, "swells 1*2;rubs 1*2*3;price 1*-2*(3);");
        value(e, "2 * 3 * 3", 18);
        value(e, "-2 * -3", 6);
        value(e, "3 * (4 - 2)", 6);
        fault(e, "swells ^*1;", "swells 1*^;", "swells 1*^*2;", "swells 1*^not 2;", "swells 1*^+2;", "swells 1*^<2;");
        e.holds(7, "ONE: a NUMBER, a NAME, - ONE, ( E ).");
        good(e, "swells hour;rubs -hour;price (hour);", "swells --1;rubs -(-1);price (1 or 2 and not 3<4+5*6);");
        fault(e, "swells (^);", "swells (1^;", "swells (1^", "swells (1 ^2);", "swells (1)^);", "swells ^);",
            "swells 1^(2);", "swells (1)^(2);", "swells (1)^2;", "swells -^;", "swells -^not 1;", "swells -^*1;",
                "swells 1 ^size;",
            "swells size^(1);", "swells (1^;rubs 2);");
    }

    private static void keysAndNames(Edges e) {
        e.holds(7, "NAMES are size make apart number foot hour; swells, rubs, price, or, and, not are KEYS.");
        for (String name : "size make apart number foot hour".split(" ")) {
            good(e, "swells " + name + ";rubs " + name + ";price " + name + ";");
            fault(e, "^" + name + " 1;", "swells 1 ^" + name + ";", "swells 1;^" + name + " 2;");
        }
        for (String key : "swells rubs price or and".split(" ")) {
            fault(e, "swells ^" + key + ";", "swells 1+^" + key + ";", "swells -^" + key + ";", "swells (^" + key + ");");
        }
        e.holds(7, "a WORD that is neither KEY nor NAME");
        for (String word : "swells rubs price or and not size make apart number foot hour".split(" ")) {
            String less = word.substring(0, word.length() - 1);
            String other = (char) (word.charAt(0) == 'z' ? 'a' : word.charAt(0) + 1) + word.substring(1);
            String last = less + (char) (word.charAt(word.length() - 1) - 1);
            for (String wrong : new String[] {less, word + "s", "s" + word, other, last, word + word}) {
                fault(e, "^" + wrong + " 1;", "swells 1 + ^" + wrong + ";", "swells 1 ^" + wrong + " 2;",
                    "swells 1;^" + wrong + " 2;");
            }
        }
        fault(e, "swells ^x", "swells ^" + "z".repeat(153));
    }

    private static void values(Edges e) {
        e.holds(7, "An E is an int (32 bits, wrapping)");
        value(e, "2048*1024*1024 < 0", 1);
        value(e, "2048*1024*1024 - 1 < 0", 0);
        value(e, "0 < 2048*1024*1024 - 1", 1);
        value(e, "0 - 2048*1024*1024 < 0", 1);
        value(e, "-(2048*1024*1024) < 0", 1);
        value(e, "-(2048*1024*1024) = 2048*1024*1024", 1);
        value(e, "2048*1024*1024 - 1 + 1 < 0", 1);
        value(e, "0 - 2048*1024*1024 - 1 < 0", 0);
        value(e, "4096*1024*1024", 0);
        value(e, "4096*1024*1024 + 7", 7);
        value(e, "(2048*1024*1024 - 1)*2 + 4", 2);
        value(e, "2048*2048*2048*2048*1024 + 3", 3);
        e.holds(7, "of or, and, not, <, = 1 or 0 (what is not 0 is true).");
        String[] ones = {"2 or 3", "0 or 5", "5 or 0", "0 or -1", "2 and 3", "4 and -4", "not 0", "not not 9", "1 < 2", "-1 < 0",
            "2 = 2",
            "-1 = 0-1", "not 2*1024*2048*1024", "0 or 0 or 7", "not (1 < 1)"};
        for (String one : ones) {
            value(e, one, 1);
            value(e, "5+(" + one + ")", 6);
        }
        String[] noughts = {"0 or 0", "0 and 7", "7 and 0", "0 and 0", "not 1", "not 2", "not -1", "not not 0", "1 < 1", "2 < 1",
            "0 < -1",
            "1 = 2", "2 = 1", "4*1024*1024*1024 or 0", "1 and 2 and 0"};
        for (String nought : noughts) {
            value(e, nought, 0);
            value(e, "5+(" + nought + ")", 5);
        }
    }

    private static void faults(Edges e) {
        e.holds(7, "FAULT: the place of the first byte of the first TOKEN that can't stand there");
        fault(e, "swells 1 ^rubs 2 rubs;", "swells   ^rubs A 12345;", "swells 1 ^number 2", "^rubs swells;",
            "  \n ^price", "swells 1;rubs 2;\n\n  ^rubs 3;", "swells ^) A;", "swells 1;rubs (2^;");
        e.holds(7, "(the text's size, if it ends too early)");
        fault(e, "^", " ^", "\n \n^", "swells^", "swells ^", "swells 1^", "swells 1  \n^", "swells (^", "swells (1^",
            "swells (1)^", "swells not^",
            "swells -^", "swells 1+^", "swells 1<^", "swells 1 or^", "swells 1 and ^", "swells 1;^", "swells 1;rubs^",
                "swells 1;rubs 2;^",
            "swells 1;rubs 2;price^", "swells 1;rubs 2;price 3^", "swells 1;rubs 2;price 3 ^");
        e.anew().type(" ".repeat(160)).is("text()", -260).type("swells" + " ".repeat(154)).is("text()", -260)
            .type("swells 1" + "+1".repeat(75) + " ").is("text()", -100 - 159);
        e.holds(7, "a NUMBER that is too long");
        good(e, "swells 0000;rubs 9999;price 1234;");
        fault(e, "swells ^00000;rubs 1;price 1;", "swells 1;rubs ^99999;price 1;", "swells 1;rubs 1;price ^12345;", "^12345",
            "swells 1 ^12345;",
            "swells 1+^12345", "swells 1 + 1234*^12345;", "swells ^" + "1".repeat(153));
    }

    /** All rows of so many that open, a "not" never right behind a "-", where it can't stand. */
    private static List<String> opening(int n) {
        List<String> rows = new ArrayList<>();
        rows.add("");
        for (int i = 0; i < n; i++) {
            List<String> longer = new ArrayList<>();
            for (String row : rows) {
                longer.add(row + "( ");
                longer.add(row + "- ");
                if (!row.endsWith("- ")) {
                    longer.add(row + "not ");
                }
            }
            rows = longer;
        }
        return rows;
    }

    private static String closing(String row) {
        return " )".repeat((int) row.chars().filter(c -> c == '(').count());
    }

    private static void tooMuchOpen(Edges e) {
        e.holds(7, "a ( , a not, a - ahead of a ONE while 5 of these are open");
        for (String row : opening(4)) {
            good(e, "swells " + row + "1" + closing(row) + ";rubs 0;price 0;");
        }
        for (String row : opening(5)) {
            String end = closing(row) + ";rubs 0;price 0;";
            good(e, "swells " + row + "1" + end, "swells 0;rubs 0;price " + row + "hour" + closing(row) + ";");
            fault(e, "swells " + row + "^( 1 )" + end, "swells " + row + "^- 1" + end, "swells " + row + "^not 1" + end);
            // A - behind a ONE opens nothing; one ahead of it ends with it.
            good(e, "swells " + row + "2 - 1" + end);
            if (!row.endsWith("- ")) {
                fault(e, "swells " + row + "2 - ^- 1" + end, "swells 0;rubs 0;price " + row + "2 * ^( 1 )" + closing(row) + ";");
            }
        }
        for (String row : opening(6)) {
            int sixth = row.trim().lastIndexOf(' ') + 1;
            fault(e, "swells " + row.substring(0, sixth) + "^" + row.substring(sixth) + "1;");
        }
    }

    private static void openTill(Edges e) {
        e.holds(7, "(a ( till its ) , not and - till what they belong to ends)");
        String five = "(((((1)))))";
        String four = "((((1))))";
        good(e, "swells (1)+" + five + ";rubs (1)*" + five + ";price (1) or " + five + ";");
        good(e, "swells " + five + "+" + five + ";rubs " + five + "<" + five + ";price " + five + " and " + five + ";");
        good(e, "swells (1+" + four + ");rubs ((1)+" + four + ");price (" + four + "+(1)+" + four + ");");
        fault(e, "swells (1+((((^(1;", "swells ((1)+((((^(1;", "swells (1 or ((((^(1;");
        good(e, "swells -1+" + five + ";rubs -1*" + five + ";price -1<" + five + ";");
        good(e, "swells -----1+-----1*-----1;rubs -" + four + "+" + five + ";price 0;");
        fault(e, "swells -((((^(1;", "swells 1--((((^(1;", "swells -1+(((((^(1;");
        good(e, "swells not 1 and " + five + ";rubs not 1 or " + five + ";price not not not not not 1 or not not not not not 1;");
        good(e, "swells not 1+" + four + ";rubs not 1<" + four + ";price not " + four + "=" + four + ";");
        fault(e, "swells not 1+((((^(1;", "swells not 1<((((^(1;", "swells not 1=((((^(1;", "swells not 1*((((^(1;",
            "swells not not 1<(((^(1;", "swells not -1<((((^(1;");
        good(e, "swells not -1<" + four + ";rubs (not 1)+" + five + ";price (not 1<2)*" + five + ";");
        // Each E of a text begins with nothing open.
        good(e, "swells " + five + ";rubs " + five + ";price " + five + ";");
    }

    private static void forcing(Edges e) {
        e.holds(8, "A TEXT is THE RULE: which was.").is("force(0)", 0).type("swells 1;rubs 0;price 0;").does("text()")
            .is("force(1)", 0).is("count(5)", 1).is("told(0, 8)", 41).is("force(1)", 1).is("force(0)", 1).is("told(0, 8)", 40);
        e.holds(8, "BAD.").outside("force(%d)", 0, 0, -2).type("swells 1;rubs 0;price 0;").does("text()", "force(1)")
            .outside("force(%d)", 0, 1, -2).type("swells 1;rubs 0;price").does("text()").refused("force(2)", -2);
        for (int text = 2; text <= 5; text++) {
            e.type("swells " + text + ";rubs 0;price 0;").does("text()");
        }
        e.outside("force(%d)", 0, 5, -2).is("force(5)", 1).is("told(0, 8)", 45).is("force(4)", 5).is("count(5)", 4);
    }
}
