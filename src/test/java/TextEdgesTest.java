import java.util.ArrayList;
import java.util.List;

/** Promises 1 to 5, and what the document's Terms say of texts: each boundary by a test of its own. */
public final class TextEdgesTest extends Trial {
    private static final int SYNTAX = 1;
    private static final int ROOM = 2;
    private static final int TWICE = 3;
    private static final int WRONG = 5;

    private static final String[] WORDS = {
        "stuff", "eats", "cut", "rough", "grade", "if", "price", "or", "and", "not",
        "bright", "leak", "dark", "weight", "uneven", "flaws", "wide", "colour",
    };

    /** A TELL of each kind is what stands ahead of its NAME and what stands behind it. */
    private static final String[][] KINDS = {
        {"stuff ", ": 1 1;"}, {"cut ", " '#;"}, {"rough ", " '#;"}, {"grade ", " if 1 < 2;"}, {"price ", " 1;"},
    };

    public static void main(String[] args) throws Exception {
        runSentences(TextEdgesTest.class, args);
    }

    @Sentence("No STUFFS, CUTS, ROUGHS, GRADES, PRICES.")
    static void promise01NewObjectIsEmpty() {
        CutStones x = new CutStones();
        for (int i = 0; i <= 6; i++) {
            due("count(" + i + ")", x.count(i), 0);
        }
        for (int i = 7; i < 50; i++) {
            due("count(" + i + ")", x.count(i), NONE);
        }
        nothingLies(x);
        due("place", x.place(), NONE);
        due("weight", x.weight(false, 0), NONE);
        due("weight", x.weight(true, 0), NONE);
        due("cell", x.cell(false, 0, 0, 0), NONE);
        due("cell", x.cell(true, 0, 0, 0), NONE);
        due("even", x.even(0), NONE);
        due("ray", x.ray(0, 0, 0, 0, 0, 1), NONE);
        due("step", x.step(0), NONE);
        sparks(x, NONE, NONE, NONE, NONE, NONE, NONE, NONE);
        due("shine", x.shine(0, 0, 0, 1, 1, 1, 1, 0), NONE);
        sights(x, NONE, NONE, NONE, NONE, NONE, NONE, NONE, NONE, NONE);
        due("column", x.column(0), NONE);
        due("grade", x.grade(), NONE);
        due("price", x.price(), NONE);
        due("fits", x.fits(0, 0, 0, 0), NONE);
        due("places", x.places(0, 0), NONE);
        due("dearest", x.dearest(0, 0, 0), NONE);
        due("two", x.two(0, 0, 0), NONE);
        due("test", x.test(0, 0, 0), NONE);
        due("annul", x.annul(0), NONE);
        due("bright", x.bright(0, 0, 0), NONE);
        due("barred", x.barred(0, 0), NONE);
        due("left", x.left(0), 0);
        due("next", x.next(0), -2);
    }

    @Sentence("Twenty bytes, the highest of a first, come behind the tape: how many it has.")
    static void promise02BytesInTheirOrder() {
        CutStones x = new CutStones();
        // "cut " "a '#" "x123" "4.12" "x#4;", as numbers
        due("feed", x.feed(0x63757420, 0x61202723, 0x78313233, 0x342e3132, 0x7823343b), 20);
        due("read", x.read(), 0);
        due("columns", x.count(10), 12);
        int[] cells = {5, 6, 1, 2, 3, 4, 0, 1, 2, 6, 5, 4};
        for (int i = 0; i < 12; i++) {
            due("cell " + i, x.cell(false, 0, i, 0), cells[i]);
        }
        due("feed", x.feed(0x20202020, 0x20202020, 0x20202020, 0x20202020, 0x20202020), 20);
        due("a second one comes behind", x.feed(0x20202020, 0x20202020, 0x20202020, 0x20202020, 0x2020203b), 40);
        due("read", x.read(), SYNTAX);
        due("place", x.place(), 39);
    }

    @Sentence("Twenty bytes, the highest of a first, come behind the tape: how many it has.")
    static void promise02AnyBytes() {
        for (int v : new int[] {LOW, HIGH, -1, 0}) {
            CutStones x = new CutStones();
            due("feed", x.feed(v, v, v, v, v), 20);
            due("read", x.read(), SYNTAX);
            due("place", x.place(), 0);
        }
        CutStones x = new CutStones();
        // letters and blanks with a highest bit are neither
        x.feed(0x20202020, 0xa0202020, 0x63757420, 0x61202723, 0x3b202020);
        due("read", x.read(), SYNTAX);
        due("place", x.place(), 4);
    }

    @Sentence("NONE, and nothing comes, if it would have more than 2,000.")
    static void promise02NothingComesAboveTwoThousand() {
        CutStones x = new CutStones();
        for (int i = 1; i <= 99; i++) {
            due("feed", x.feed(0x20202020, 0x20202020, 0x20202020, 0x20202020, 0x20202020), 20 * i);
        }
        due("back", x.back(0), 1980);
        due("just 2,000", x.feed(0x63757420, 0x61202723, 0x3b202020, 0x20202020, 0x20202020), 2000);
        due("one too many", x.feed(0x3b3b3b3b, 0x3b3b3b3b, 0x3b3b3b3b, 0x3b3b3b3b, 0x3b3b3b3b), NONE);
        due("count(6)", x.count(6), 2000);
        due("back", x.back(1), 1999);
        due("by 19 too many", x.feed(0x3b3b3b3b, 0x3b3b3b3b, 0x3b3b3b3b, 0x3b3b3b3b, 0x3b3b3b3b), NONE);
        due("count(6)", x.count(6), 1999);
        due("back", x.back(10), 1989);
        due("read", x.read(), 0);
        due("the CUT", x.count(1), 1);
    }

    @Sentence("NONE, and nothing comes, if it would have more than 2,000.")
    static void promise02NoByteMoreThan1980() {
        CutStones x = new CutStones();
        feedText(x, times(1981, " "));
        due("1981", x.feed(0, 0, 0, 0, 0), NONE);
        due("count(6)", x.count(6), 1981);
        due("back", x.back(1), 1980);
        due("1980", x.feed(0, 0, 0, 0, 0), 2000);
    }

    @Sentence("The last n bytes of the tape go: how many it has.")
    static void promise03TheLastOnesGo() {
        CutStones x = new CutStones();
        feedText(x, "cut a '#;           ");
        due("back(0)", x.back(0), 20);
        due("back(1)", x.back(1), 19);
        due("back(10)", x.back(10), 9);
        feedText(x, "cut b '1;           ");
        due("count(6)", x.count(6), 29);
        due("read", x.read(), 0);
        due("both", x.count(1), 2);
        due("the first", x.cell(false, 0, 0, 0), 5);
        due("the second", x.cell(false, 1, 0, 0), 1);
    }

    @Sentence("The last n bytes of the tape go: how many it has.")
    static void promise03AllOfThemGo() {
        CutStones x = new CutStones();
        feedText(x, times(2000, ";"));
        due("back(2000)", x.back(2000), 0);
        due("count(6)", x.count(6), 0);
        due("read", x.read(), 0);
        due("back(0)", x.back(0), 0);
    }

    @Sentence("NONE, and nothing goes, if it has not so many, or n is below 0.")
    static void promise03NothingGoesIfNotSoMany() {
        refused("back(21)", x -> x.back(21));
        refused("back(2000)", x -> x.back(2000));
        refused("back(HIGH)", x -> x.back(HIGH));
        refusedBy(new CutStones(), "back(1) of an empty tape", x -> x.back(1));
    }

    @Sentence("NONE, and nothing goes, if it has not so many, or n is below 0.")
    static void promise03NothingGoesBelowZero() {
        refused("back(-1)", x -> x.back(-1));
        refused("back(-20)", x -> x.back(-20));
        refused("back(LOW)", x -> x.back(LOW));
        refusedBy(new CutStones(), "back(-1) of an empty tape", x -> x.back(-1));
    }

    @Sentence("The tape, which is empty then, is read: 0, or the number of its FAULT.")
    static void promise04TheTapeIsEmptyThen() {
        String[] texts = {"cut a '#;", ";", "price a (((((((1)))))));", "cut a '#; cut a '#;", "cut a '.;"};
        int[] faults = {0, SYNTAX, ROOM, TWICE, WRONG};
        for (int i = 0; i < texts.length; i++) {
            CutStones x = new CutStones();
            feedText(x, texts[i]);
            due("read of " + texts[i], x.read(), faults[i]);
            due("bytes", x.count(6), 0);
            due("back(1)", x.back(1), NONE);
            due("feed", x.feed(0, 0, 0, 0, 0), 20);
        }
    }

    @Sentence({"text: {TELL}.", "The tape, which is empty then, is read: 0, or the number of its FAULT."})
    static void promise04NothingOnTheTape() {
        fault("", 0);
        fault("\t\n\r ", 0);
        CutStones x = busy();
        x.back(20);
        due("read", x.read(), 0);
        due("an empty text is in place of the one ahead", state(x).equals(state(new CutStones())) ? 1 : 0, 1);
    }

    @Sentence("A TEXT has 2,000 bytes at most.")
    static void promise04TextOf2000Bytes() {
        fault(times(1991, " ") + "cut a '#;", 0);
        fault("cut a '#;" + times(1991, "\n"), 0);
        fault(times(1999, " ") + "@;", SYNTAX);
        fault(times(1997, " ") + "cut@", SYNTAX);
        fault(times(1992, " ") + "cut abcd@", SYNTAX);
        fault(times(1998, " ") + "@<=", SYNTAX);
        fault(times(1999, " ") + "@<", SYNTAX);
        fault(times(1999, " ") + "@!", SYNTAX);
        fault(times(1999, " ") + "@'", SYNTAX);
        fault(times(1999, " ") + "@9", SYNTAX);
        fault("cut" + times(1997, " ") + "@", SYNTAX);
    }

    @Sentence("with blanks (9, 10, 13, 32) between or not")
    static void promise04Blanks() {
        for (int c = 0; c < 256; c++) {
            boolean blank = c == 9 || c == 10 || c == 13 || c == 32;
            String sign = String.valueOf((char) c);
            if (blank) {
                fault(sign + "cut" + sign + "a" + sign + sign + "'#" + sign + ";" + sign, 0);
            } else if (c != '@') {
                CutStones x = new CutStones();
                feedText(x, " cut a '#; " + sign);
                due("byte " + c, x.read(), SYNTAX);
                due("place of byte " + c, x.place(), 11);
            }
        }
        fault("stuff a:1 1,2 2eats3;cut b'#'#;rough c'#;grade d if(1)<(2)and 1<2or not 1!=2;price e 1if 1<2;", 0);
    }

    @Sentence("TOKENS, the longest that can be")
    static void promise04TheLongestTokens() {
        fault("@stuffa: 1 1;", SYNTAX);
        fault("grade a @ifbright < 1;", SYNTAX);
        fault("grade a if 1 < 2 @andnot 1 < 2;", SYNTAX);
        fault("stuff a: 12 @;", SYNTAX);
        fault("grade a if 1<=2;", 0);
        fault("grade a if 1< @=2;", SYNTAX);
        fault("grade a if 1<\n@=2;", SYNTAX);
        fault("grade a if 1@= =2;", SYNTAX);
        fault("grade a if 1@! =2;", SYNTAX);
        fault("cut a '#'#;", 0);
        fault("cut a '# @#;", SYNTAX);
    }

    @Sentence("NAMES (letters a .. z, 8 at most, none of the words in quotes)")
    static void promise04NamesOfEightLetters() {
        for (String[] kind : KINDS) {
            fault(kind[0] + "a" + kind[1], 0);
            fault(kind[0] + "azazazaz" + kind[1], 0);
            fault(kind[0] + "@azazazaza" + kind[1], SYNTAX);
            fault(kind[0] + "@" + times(1000, "z") + kind[1], SYNTAX);
            fault(kind[0].trim() + kind[1].replaceFirst("^( *)", "$1@"), SYNTAX);
        }
    }

    @Sentence("NAMES (letters a .. z, 8 at most, none of the words in quotes)")
    static void promise04LettersFromAToZ() {
        for (char c = 'a'; c <= 'z'; c++) {
            fault("cut " + c + " '#;", 0);
        }
        for (char c : new char[] {'`', '{', 'A', 'Z', '_', '5', (char) 225}) {
            fault("cut @" + c + " '#;", SYNTAX);
            fault("cut ab@" + c + " '#;", SYNTAX);
        }
    }

    @Sentence("NAMES (letters a .. z, 8 at most, none of the words in quotes)")
    static void promise04WordsAreNoNames() {
        for (String word : WORDS) {
            for (String[] kind : KINDS) {
                fault(kind[0] + "@" + word + kind[1], SYNTAX);
            }
            fault("cut " + word + "z '#;", 0);
            fault("cut z" + word + " '#;", 0);
            fault("cut " + word.substring(1) + " '#;", 0);
            fault("cut " + word.substring(0, word.length() - 1) + " '#;", 0);
        }
        for (String name : new String[] {"text", "tell", "share", "cond", "all", "lit", "e", "part", "unit", "var", "int", "x"}) {
            fault("cut " + name + " '#;", 0);
        }
    }

    @Sentence("INTS (1 to 4 digits)")
    static void promise04IntsOfFourDigits() {
        for (String told : new String[] {"0", "9", "10", "99", "100", "999", "1000", "9999", "0000", "0001", "0099"}) {
            due("price " + told, price(told), Integer.parseInt(told));
        }
        fault("price a @00000;", SYNTAX);
        fault("price a @10000;", SYNTAX);
        fault("price a @" + times(1000, "0") + ";", SYNTAX);
        fault("stuff a: @01000 1;", SYNTAX);
        fault("stuff a: 1 @01000;", SYNTAX);
        fault("stuff a: 1 1 eats @01000;", SYNTAX);
        fault("grade a if 1 < @12345;", SYNTAX);
        fault("price a 1234 @5;", SYNTAX);
    }

    private static int price(String e) {
        CutStones x = told("stuff s: 1 1; cut a '#; price b " + e + ";");
        x.shine(0, 0, 0, 0, 0, 0, 1, 0);
        return x.price();
    }

    @Sentence("ROWS (in front a ', then of # . 1 2 3 4 x one to 12)")
    static void promise04RowsOfTwelve() {
        for (String kind : new String[] {"cut a", "rough a"}) {
            fault(kind + " '#;", 0);
            fault(kind + " '#.1234x#.123;", 0);
            fault(kind + " @'#.1234x#.1234;", SYNTAX);
            fault(kind + " @'" + times(1000, "#") + ";", SYNTAX);
            fault(kind + " @';", SYNTAX);
            fault(kind + " @' #;", SYNTAX);
            fault(kind + " '# @';", SYNTAX);
            fault(kind + " '# @'" + times(13, "#") + ";", SYNTAX);
            fault(kind + " @''#;", SYNTAX);
            fault(kind + " @'", SYNTAX);
        }
    }

    @Sentence("ROWS (in front a ', then of # . 1 2 3 4 x one to 12)")
    static void promise04SignsOfRows() {
        for (char c = 33; c < 127; c++) {
            boolean cell = "#.1234x".indexOf(c) >= 0;
            if (cell) {
                fault("cut a '#" + c + ";", 0);
                fault("cut a '" + c + "#;", 0);
            } else if (c != '@' && c != ';' && c != '\'') {
                fault("cut a '#@" + c + ";", SYNTAX);
                fault("cut a @'" + c + ";", SYNTAX);
            }
        }
    }

    @Sentence("SIGNS ; : , + - * / == != < <= ( ) .")
    static void promise04Signs() {
        fault("stuff a: 1 1, 1 1; price b (1 + 2 - 3) * 4 / 5; grade c if 1 == 1 and 1 != 1 and 1 < 1 and 1 <= 1;", 0);
        for (char c = 33; c < 127; c++) {
            boolean goesOn = c >= '0' && c <= '9' || ";+-*/".indexOf(c) >= 0;
            if (c >= '0' && c <= '9') {
                fault("price a 1" + c + ";", 0);
            } else if (!goesOn && c != '@') {
                fault("price a 1@" + c + "1;", SYNTAX);
                fault("price a 1@" + c, SYNTAX);
            }
        }
        fault("grade a if 1@=1;", SYNTAX);
        fault("grade a if 1@!1;", SYNTAX);
        fault("grade a if 1@>1;", SYNTAX);
        fault("grade a if 1@>=1;", SYNTAX);
        fault("grade a if 1+@=1;", SYNTAX);
        fault("grade a if 1@=<1;", SYNTAX);
        fault("grade a if 1==@=1;", SYNTAX);
        fault("grade a if 1!=@=1;", SYNTAX);
        fault("grade a if 1<=@=1;", SYNTAX);
        fault("grade a if 1<@<1;", SYNTAX);
        fault("grade a if 1@.1;", SYNTAX);
    }

    @Sentence("of COLOURS 0 .. 3 (one to four SHARES; a COLOUR without one has the last)")
    static void promise04ColoursHaveTheLastShare() {
        for (int told = 1; told <= 4; told++) {
            StringBuilder shares = new StringBuilder();
            for (int i = 0; i < told; i++) {
                shares.append(i == 0 ? ": " : ", ").append(1000 - 200 * i).append(' ').append(100 + 50 * i);
            }
            CutStones x = told("stuff s" + shares + "; cut a '1;");
            for (int colour = 0; colour < 4; colour++) {
                int last = Math.min(colour, told - 1);
                int in = 1000 - 200 * last;
                x.ray(0, 0, colour, 0, 0, 1000);
                due(told + " SHARES: GLARE of COLOUR " + colour, x.spark(4), 1000 - in);
                // down only the slant lets out: at once, and what the left face throws back is turned up
                int firstOut = in * (100 + 50 * last) / 1000;
                due(told + " SHARES: OUT down is that by the slant", x.spark(2) >= firstOut ? 1 : 0, 1);
                if (in == 1000) {
                    sparks(x, 0, 0, 100, 900, 0, 0, 0);
                }
            }
        }
        CutStones y = told("stuff s: 1000 0, 1000 10, 1000 100, 1000 1000; cut a '1;");
        int[] slants = {0, 10, 100, 1000};
        for (int colour = 0; colour < 4; colour++) {
            y.ray(0, 0, colour, 0, 0, 1000);
            sparks(y, 0, 0, slants[colour], 1000 - slants[colour], 0, 0, 0);
        }
    }

    @Sentence("of COLOURS 0 .. 3 (one to four SHARES; a COLOUR without one has the last)")
    static void promise04OneToFourShares() {
        fault("stuff a: @;", SYNTAX);
        fault("stuff a: @eats 5;", SYNTAX);
        fault("stuff a @1 1;", SYNTAX);
        fault("stuff a: 1 1;", 0);
        fault("stuff a: 1 1, 1 1, 1 1, 1 1;", 0);
        fault("stuff a: 1 1, 1 1, 1 1, 1 1 eats 1;", 0);
        fault("stuff a: 1 @, 1 1;", SYNTAX);
        fault("stuff a: 1 1 @1 1;", SYNTAX);
        fault("stuff a: 1 1, @;", SYNTAX);
    }

    @Sentence("EATS what of 1000 a FLAW eats (200 without)")
    static void promise04EatsTwoHundredWithout() {
        CutStones x = told("stuff s: 1000 0 eats 0; stuff t: 1000 0 eats 1; stuff u: 1000 0; stuff v: 1000 0 eats 1000; cut a 'x;");
        int[] eaten = {0, 1, 200, 1000};
        for (int stuff = 0; stuff < 4; stuff++) {
            x.ray(0, stuff, 0, 0, 0, 1000);
            sparks(x, 0, 0, 1000 - eaten[stuff], 0, 0, eaten[stuff], 0);
        }
        // nothing stays from the texts that were read ahead
        for (int i = 0; i < 3; i++) {
            tell(x, "stuff s: 1000 0; stuff t: 1000 0; stuff u: 1000 0; stuff v: 1000 0; cut a 'x;");
            for (int stuff = 0; stuff < 4; stuff++) {
                x.ray(0, stuff, 0, 0, 0, 1000);
                due("eaten", x.spark(5), 200);
            }
        }
    }

    @Sentence("STUFFS, CUTS, ROUGHS, GRADES, PRICES are numbered each from 0 on as they stand.")
    static void promise04NumberedAsTheyStand() {
        CutStones x = told("price p 5 if 2 < 1; rough a '#; cut b '1; grade g if 2 < 1; stuff s: 1000 0; rough c '##; price q 6; cut d '2;"
                + "grade h if 1 < 2; stuff t: 0 0; price r 7;");
        int[] counts = {2, 2, 2, 2, 3};
        for (int i = 0; i < 5; i++) {
            due("count(" + i + ")", x.count(i), counts[i]);
        }
        due("CUT 0", x.cell(false, 0, 0, 0), 1);
        due("CUT 1", x.cell(false, 1, 0, 0), 2);
        due("ROUGH 0", x.count(30), 1);
        due("ROUGH 1", x.count(31), 2);
        due("STUFF 0", x.ray(0, 0, 0, 0, 0, 9), 1);
        due("STUFF 1", x.ray(0, 1, 0, 0, 0, 9), 0);
        x.shine(0, 0, 0, 0, 0, 0, 1, 0);
        due("GRADE", x.grade(), 1);
        due("PRICE", x.price(), 6);
    }

    @Sentence("FAULTS, the first by its place (a byte; the text's end: its length)")
    static void promise05PlaceOfTheEnd() {
        String whole = "stuff a : 1 1 , 1 1 eats 1 ; cut b '# '# ; rough c '# ; grade d if not 1 < ( 2 ) and 1 < 2 or 1 < 2 ; price e 1 + 1 if 1 < 2 ;";
        for (int i = 0; i < whole.length(); i++) {
            String part = whole.substring(0, i);
            boolean ends = part.trim().isEmpty() || part.trim().endsWith(";");
            boolean withinToken = i > 0 && whole.charAt(i - 1) != ' ' && whole.charAt(i) != ' ';
            if (ends) {
                fault(part, 0);
            } else if (!withinToken) {
                fault(part + "@", SYNTAX);
                fault(part + "  \n@", SYNTAX);
            }
        }
        fault(whole, 0);
    }

    @Sentence("FAULTS, the first by its place (a byte; the text's end: its length)")
    static void promise05TheFirstByItsPlace() {
        fault("@; ; ;", SYNTAX);
        fault("cut a '#; @) stuff a: 1 1, 1 1, 1 1, 1 1, 1 1;", SYNTAX);
        fault("stuff a: 1 1, 1 1, 1 1, 1 1, @1 1; )", ROOM);
        fault("stuff a: 1 1, 1 1, 1 1, 1 1, @1 ;", ROOM);
        fault("price a ((((((@(1;", ROOM);
        fault("cut a '#; cut @a '.; stuff a: 1001 1;", TWICE);
        fault("cut a @'.; cut a '#; cut a '#;", WRONG);
        fault("stuff a: 1 @1001, 1001 1; stuff a: 1 1;", WRONG);
    }

    @Sentence("of one place the least")
    static void promise05OfOnePlaceTheLeast() {
        String full = "price a 1" + times(248, "+1");
        fault(full + ";@;", SYNTAX);
        fault(full + ";@=", SYNTAX);
        fault(full + ";@abcdefghi", SYNTAX);
        fault(full + ";@'", SYNTAX);
        fault(full + "+@;", SYNTAX);
        fault(full + "+@+", SYNTAX);
        fault(full + "+@", SYNTAX);
        fault(full + ";@cut", ROOM);
        fault(full + "+@1", ROOM);
        fault("stuff a: 1 1, 1 1, 1 1, 1 1, @a", SYNTAX);
        fault("price a ((((((1@(", SYNTAX);
        fault("price a ((((((@)", SYNTAX);
    }

    @Sentence("1 SYNTAX: a TOKEN, or what is none, with which no text goes on.")
    static void promise04SyntaxAtEachToken() {
        String[] all = {
            "stuff", "a", ":", "1", "1", ",", "1", "1", "eats", "1", ";", "cut", "b", "'#", "'#", ";", "rough", "c", "'#", ";",
            "grade", "d", "if", "not", "1", "<", "(", "bright", ")", "and", "1", "!=", "2", "or", "1", "==", "2", ";",
            "price", "e", "1", "+", "wide", "-", "1", "*", "2", "/", "3", "if", "1", "<=", "2", ";",
        };
        StringBuilder ahead = new StringBuilder();
        Grammar grammar = new Grammar();
        for (String token : all) {
            eachTokenBehind(ahead.toString(), all, grammar);
            due("the text goes on", grammar.goOn(kindOf(token)) ? 1 : 0, 1);
            ahead.append(token).append(' ');
        }
        eachTokenBehind(ahead.toString(), all, grammar);
        fault(ahead.toString(), 0);
    }

    /** Any one token, or what is none, behind the tokens ahead, and then the text's end. */
    private static void eachTokenBehind(String ahead, String[] all, Grammar grammar) {
        List<String> tries = new ArrayList<>(List.of(WORDS));
        tries.addAll(List.of(";", ":", ",", "+", "-", "*", "/", "==", "!=", "<", "<=", "(", ")", "name", "5", "'#"));
        for (String token : tries) {
            boolean goesOn = startsWith(ahead, all).goOn(kindOf(token));
            if (!goesOn) {
                fault(ahead + "@" + token, SYNTAX);
            } else if (!token.equals(";")) {
                fault(ahead + token + "@", SYNTAX);
            }
        }
        for (String none : new String[] {"=", "!", ">", "'", "12345", "abcdefghi", "A", "'#############"}) {
            fault(ahead + "@" + none, SYNTAX);
        }
        due("the text may end", grammar.mayEnd() ? 1 : 0, ahead.isEmpty() || ahead.endsWith("; ") ? 1 : 0);
    }

    /** A grammar that has gone on with those of all tokens that stand ahead. */
    private static Grammar startsWith(String ahead, String[] all) {
        Grammar grammar = new Grammar();
        int at = 0;
        for (int i = 0; at < ahead.length(); i++) {
            grammar.goOn(kindOf(all[i]));
            at += all[i].length() + 1;
        }
        return grammar;
    }

    private static String kindOf(String token) {
        char first = token.charAt(0);
        if (first == '\'') {
            return "ROW";
        }
        if (Character.isDigit(first)) {
            return "INT";
        }
        return Character.isLetter(first) && !List.of(WORDS).contains(token) ? "NAME" : token;
    }

    @Sentence("2 ROOM: a 501st TOKEN;")
    static void promise04RoomForFiveHundredTokens() {
        fault("price a 1" + times(248, "+1") + ";", 0);
        fault("price a 1" + times(248, "+1") + "+@1;", ROOM);
        fault("grade a if" + times(493, " not") + " 1<2;", 0);
        fault("grade a if" + times(494, " not") + " 1<2@;", ROOM);
        fault("grade a if" + times(495, " not") + " 1<@2;", ROOM);
        fault("grade a if" + times(495, " not") + " 1<@bright;", ROOM);
        fault("grade a if" + times(495, " not") + " 1<@(2);", ROOM);
        fault("grade a if" + times(496, " not") + " 1@<=2;", ROOM);
        fault("grade a if" + times(496, " not") + " 1@<", ROOM);
        fault("price a 1" + times(248, "+1") + ";@stuff b: 1 1;", ROOM);
        fault("price a 1" + times(247, "+1") + ";cut b @'#;", ROOM);
        fault("stuff b: 1 1;price a 1" + times(245, "+1") + "+@1+1;", ROOM);
        fault("stuff b: 1 1;price a 1" + times(245, "+1") + ";", 0);
    }

    @Sentence("a 5th STUFF, a 7th CUT, a 5th ROUGH, a 9th GRADE, a 9th PRICE (at its first TOKEN)")
    static void promise04RoomForEachKind() {
        int[] most = {4, 6, 4, 8, 8};
        for (int i = 0; i < KINDS.length; i++) {
            String[] kind = KINDS[i];
            StringBuilder all = new StringBuilder();
            for (int k = 0; k < most[i]; k++) {
                all.append(kind[0]).append("n").append((char) ('a' + k)).append(kind[1]).append(' ');
            }
            due(kind[0], told(all.toString()).count(i), most[i]);
            fault(all + "@" + kind[0] + "z" + kind[1], ROOM);
            fault(all + "@" + kind[0], ROOM);
            fault(all + "@" + kind[0] + "na" + kind[1], ROOM);
            fault(all + "@" + kind[0] + ";", ROOM);
            for (String[] other : KINDS) {
                if (other != kind) {
                    fault(all + other[0] + "z" + other[1], 0);
                }
            }
        }
    }

    @Sentence("a 5th STUFF, a 7th CUT, a 5th ROUGH, a 9th GRADE, a 9th PRICE (at its first TOKEN)")
    static void promise04RoomForAllKindsAtOnce() {
        int[] most = {4, 6, 4, 8, 8};
        StringBuilder all = new StringBuilder();
        for (int i = 0; i < KINDS.length; i++) {
            for (int k = 0; k < most[i]; k++) {
                all.append(KINDS[i][0]).append((char) ('a' + i)).append((char) ('a' + k)).append(KINDS[i][1]);
            }
        }
        CutStones x = told(all.toString());
        for (int i = 0; i < KINDS.length; i++) {
            due("count(" + i + ")", x.count(i), most[i]);
            fault(all + "@" + KINDS[i][0] + "z" + KINDS[i][1], ROOM);
        }
    }

    @Sentence("a 5th SHARE, a 13th ROW (at its first TOKEN)")
    static void promise04RoomForFourShares() {
        fault("stuff a: 1 1, 1 1, 1 1, 1 1;", 0);
        fault("stuff a: 1 1, 1 1, 1 1, 1 1, @1 1;", ROOM);
        fault("stuff a: 1 1, 1 1, 1 1, 1 1, @1001 1;", ROOM);
        fault("stuff a: 1 1, 1 1, 1 1, 1 1, @1", ROOM);
        fault("stuff a: 1 1, 1 1, 1 1, 1 1, @", SYNTAX);
        fault("stuff a: 1 1, 1 1; stuff b: 1 1, 1 1, 1 1, 1 1;", 0);
    }

    @Sentence("a 5th SHARE, a 13th ROW (at its first TOKEN)")
    static void promise04RoomForTwelveRows() {
        for (String kind : new String[] {"cut a", "rough a"}) {
            fault(kind + times(12, " '#") + ";", 0);
            fault(kind + times(12, " '#") + " @'#;", ROOM);
            fault(kind + times(12, " '#") + " @'##;", ROOM);
            fault(kind + times(12, " '#") + " @'#", ROOM);
            fault(kind + times(12, " '#") + " @';", SYNTAX);
            fault(kind + times(12, " '#") + "@", SYNTAX);
        }
        due("rows", told("cut a" + times(12, " '#") + ";").count(20), 12);
        due("rows", told("rough a" + times(12, " '#") + ";").count(40), 12);
    }

    @Sentence("a 7th ( within one another")
    static void promise04RoomForSixOpen() {
        fault("price a ((((((1))))));", 0);
        fault("price a ((((((@(1)))))));", ROOM);
        fault("price a ((((((1 + @(1)))))));", ROOM);
        fault("price a ((((((1 * @(1)))))));", ROOM);
        fault("price a ((((((1)))))) + ((((((1)))))) * ((((((1))))));", 0);
        fault("price a (((((1) + (1) * (1)))));", 0);
        fault("price a 1 + 2 * ((((((@(", ROOM);
        fault("grade a if ((((((1)))))) < ((((((1)))))) and ((((((1)))))) < ((((((1))))));", 0);
        fault("grade a if ((((((@(1))))))) < 1;", ROOM);
        fault("grade a if 1 < ((((((@(1)))))));", ROOM);
        fault("price a 1 if 1 < ((((((@(1)))))));", ROOM);
        due("as deep as can be", price("2*(3+(2*(3+(2*(3+(2))))))"), 2 * (3 + 2 * (3 + 2 * (3 + 2))));
    }

    @Sentence("3 TWICE: a NAME told already (of all kinds).")
    static void promise04TwiceOfAllKinds() {
        for (String[] one : KINDS) {
            for (String[] other : KINDS) {
                fault(one[0] + "name" + one[1] + other[0] + "@name" + other[1], TWICE);
                fault(one[0] + "name" + one[1] + other[0] + "names" + other[1], 0);
                fault(one[0] + "name" + one[1] + other[0] + "nam" + other[1], 0);
            }
        }
        fault("cut abcdefgh '#; cut abcdefgi '#; cut bbcdefgh '#; cut @abcdefgh '#; cut abcdefgi '#;", TWICE);
        fault("cut a '#; cut b '#; cut c '#; cut d '#; cut e '#; cut f '#; rough @f '#;", TWICE);
        for (char c = 'a'; c <= 'z'; c++) {
            String same = String.valueOf(c);
            fault("cut " + same + " '#; cut " + times(2, same) + " '#; cut " + times(7, same) + " '#; cut " + times(8, same) + " '#;", 0);
        }
        fault("cut a '#; cut @a '#; cut a '#;", TWICE);
        // a VAR's letters are no NAME, nor is a NAME one for an E
        fault("price a 1; price b @a;", SYNTAX);
    }

    @Sentence("3 TWICE: a NAME told already (of all kinds).")
    static void promise04NamesOfTheTextAheadAreGone() {
        CutStones x = told("cut a '#; stuff b: 1 1;");
        tell(x, "cut a '#; stuff b: 1 1;");
        feedText(x, "cut c '#; cut c '#;");
        due("read", x.read(), TWICE);
        tell(x, "stuff c: 1 1; cut a '#;");
        tell(x, "stuff c: 1 1; cut a '#;");
    }

    @Sentence("5 WRONG: a SHARE's INT above 1000, eats above 1000 (at it)")
    static void promise04WrongAboveAThousand() {
        fault("stuff a: 1000 1000, 1000 1000, 1000 1000, 1000 1000 eats 1000;", 0);
        fault("stuff a: 0 0, 0 0, 0 0, 0 0 eats 0;", 0);
        for (String much : new String[] {"1001", "9999"}) {
            for (int i = 0; i < 4; i++) {
                String ahead = "stuff a: " + times(i, "1 1, ");
                String behind = times(3 - i, ", 1 1") + ";";
                fault(ahead + "@" + much + " 1" + behind, WRONG);
                fault(ahead + "1 @" + much + behind, WRONG);
                fault(ahead + "@" + much + " " + much + behind, WRONG);
            }
            fault("stuff a: 1 1 eats @" + much + ";", WRONG);
            fault("price a " + much + " if " + much + " < " + much + ";", 0);
        }
    }

    @Sentence("a ROW not as long as the first one of its own (at it)")
    static void promise04WrongRow() {
        for (String kind : new String[] {"cut ", "rough "}) {
            fault(kind + "a '## '##;", 0);
            fault(kind + "a '## @'#;", WRONG);
            fault(kind + "a '## @'###;", WRONG);
            fault(kind + "a '" + times(12, "#") + " @'" + times(11, "#") + ";", WRONG);
            fault(kind + "a '# @'" + times(12, "#") + ";", WRONG);
            fault(kind + "a" + times(11, " '##") + " @'#;", WRONG);
            fault(kind + "a '## @'# '# '###;", WRONG);
            fault(kind + "a '## '## @'# '##;", WRONG);
            fault(kind + "a '##; " + kind + "b '# '#; " + kind + "c '### '###;", 0);
            fault(kind + "a '.. @'. '..;", WRONG);
        }
    }

    @Sentence("the last ROW of a CUT or ROUGH all of whose cells are nothing")
    static void promise04WrongIfAllIsNothing() {
        for (String kind : new String[] {"cut ", "rough "}) {
            fault(kind + "a @'.;", WRONG);
            fault(kind + "a @'............;", WRONG);
            fault(kind + "a '. @'.;", WRONG);
            fault(kind + "a" + times(11, " '............") + " @'............;", WRONG);
            fault(kind + "a" + times(11, " '............") + " '...........1;", 0);
            fault(kind + "a 'x..........." + times(11, " '............") + ";", 0);
            fault(kind + "b '#; " + kind + "a '.. @'..; " + kind + "c '.;", WRONG);
            for (char c : "1234#x".toCharArray()) {
                fault(kind + "a '" + c + ";", 0);
                fault(kind + "a '. '" + c + " '.;", 0);
            }
        }
        // a drawing that is read where another one stood has none of its cells
        CutStones x = told("cut a '# '#; rough b '# '#;");
        tell(x, "cut a '# '#; rough b '# '#;");
        for (String text : new String[] {"cut a '. '.;", "rough a '. '.;"}) {
            feedText(x, text);
            due("read of " + text, x.read(), WRONG);
        }
    }

    @Sentence("If there is none, likewise: 3 TWICE")
    static void promise04TwiceAndWrongOnlyWithoutTheOthers() {
        String[] later = {"cut a '#; cut a '#;", "cut a '.;", "cut a '# '##;", "stuff a: 1001 1;", "stuff a: 1 1 eats 1001;"};
        for (String ahead : later) {
            fault(ahead + "@;", SYNTAX);
            fault(ahead + " cut@", SYNTAX);
            fault(ahead + " price b ((((((@(1)))))));", ROOM);
            fault(ahead + " stuff b: 1 1, 1 1, 1 1, 1 1, @1 1;", ROOM);
        }
    }

    @Sentence("A text with a FAULT changes nothing;")
    static void promise04FaultsChangeNothing() {
        String good = "stuff z: 1 1; cut y '1 '1; rough x '2; grade w if 2 < 1; price v 1;";
        String[] bad = {";", "price u (((((((1)))))));", "cut y '#;", "cut u '.;", "stuff u: 1 1 eats 1001;", "cut u '# '##;"};
        int[] faults = {SYNTAX, ROOM, TWICE, WRONG, WRONG, WRONG};
        for (int i = 0; i < bad.length; i++) {
            CutStones x = busy();
            List<Integer> before = state(x);
            x.back(20);
            feedText(x, good + bad[i]);
            due("read of " + bad[i], x.read(), faults[i]);
            due("nothing is changed by " + bad[i], state(x).equals(before) ? 1 : 0, 1);
            due("the tape is empty", x.count(6), 0);
        }
    }

    @Sentence("else it is in place of the one ahead, and what was followed, SHINES, what was LAID, TESTS are gone")
    static void promise04AllIsGone() {
        CutStones x = busy();
        x.back(20);
        due("something was followed", x.spark(0) != NONE && x.step(0) != NONE ? 1 : 0, 1);
        due("a SHINE was", x.seen(0) != NONE && x.column(0) != NONE ? 1 : 0, 1);
        due("something was LAID", x.laid(0) != NONE ? 1 : 0, 1);
        due("TESTS were", x.count(5), 3);
        tell(x, BUSY);
        due("the same is told", state(x).equals(state(told(BUSY))) ? 1 : 0, 1);
        sparks(x, NONE, NONE, NONE, NONE, NONE, NONE, NONE);
        due("step", x.step(0), NONE);
        sights(x, NONE, NONE, NONE, NONE, NONE, NONE, NONE, NONE, NONE);
        due("column", x.column(0), NONE);
        due("grade", x.grade(), NONE);
        due("price", x.price(), NONE);
        nothingLies(x);
        due("TESTS", x.count(5), 0);
        due("no n", x.left(1), NONE);
        due("none is barred", x.left(0), 3);
        due("the first TEST", x.test(0, 0, 0), 0);
    }

    @Sentence("else it is in place of the one ahead, and what was followed, SHINES, what was LAID, TESTS are gone")
    static void promise04InPlaceOfTheOneAhead() {
        CutStones x = told("stuff s: 500 0; cut a '### '###; cut b '#; rough r '## '##; rough q '#; grade g if 1 < 2; price p 5;");
        due("bright", x.bright(0, 0, 0) > 0 ? 1 : 0, 1);
        tell(x, "stuff s: 0 0; cut a '#2; rough r '3;");
        int[] counts = {1, 1, 1, 0, 0, 0, 0};
        for (int i = 0; i < counts.length; i++) {
            due("count(" + i + ")", x.count(i), counts[i]);
        }
        due("columns", x.count(10), 2);
        due("rows", x.count(20), 1);
        due("weight", x.weight(false, 0), 3);
        due("cell", x.cell(false, 0, 1, 0), 2);
        due("no cell", x.cell(false, 0, 2, 0), NONE);
        due("no cell", x.cell(false, 0, 0, 1), NONE);
        due("no CUT", x.weight(false, 1), NONE);
        due("no ROUGH", x.weight(true, 1), NONE);
        due("bright", x.bright(0, 0, 0), 0);
        x.shine(0, 0, 0, 1, 1, 1, 1, 0);
        due("no GRADE", x.grade(), -2);
        due("no PRICE", x.price(), 0);
    }

    @Sentence({"A text with a FAULT changes nothing;", "else it is in place of the one ahead"})
    static void promise04ManyTextsInARow() {
        String full = times(12, " '############");
        String[] texts = {
            "stuff a: 500 0; stuff b: 900 9 eats 9; cut c" + full + "; rough d" + full + "; grade e if 2 < 1; grade f if bright < 1 / 0; price g 5 if 2 < 1; price h 6;",
            "stuff a: 400 0; cut c '#.. '..#; rough d '### '###; rough e '#; price g 7 + bright * leak if 1 < 2;",
            "stuff a: 600 0; cut c '#; cut d '1; rough e '##; grade f if 1 < 2;",
            "stuff a: 500 10; cut c '.# '#.; rough d '#1 '.#;",
            "",
        };
        String[] bad = {";", "cut a '#; rough b '# '#; cut a '#;", "stuff a: 1 1; grade b if 1 < 2; price c 9; cut d '.;", "price a 1 + (((((((1"};
        for (int from = 0; from < 5; from++) {
            for (int by = 1; by < 5; by++) {
                CutStones x = new CutStones();
                String text = "";
                for (int i = 0; i < 3; i++) {
                    feedText(x, bad[(from + i) % 4]);
                    due("a FAULT", x.read() != 0 ? 1 : 0, 1);
                    text = texts[(from + i * by) % 5];
                    tell(x, text);
                }
                asIfFirst(x, told(text));
            }
        }
    }

    @Sentence({"2 ROOM: a 501st TOKEN;", "else it is in place of the one ahead"})
    static void promise04LongTextsInARow() {
        CutStones x = new CutStones();
        for (int i = 0; i < 5; i++) {
            String head = "stuff s: 1 1;cut a '#;price b " + i;
            // 6, 4 and 3 tokens, so many times two, and the last
            String text = head + times(243, "+1") + ";";
            tell(x, text);
            x.shine(0, 0, 0, 0, 0, 0, 1, 0);
            due("price", x.price(), 243 + i);
            feedText(x, text + "cut c '#;");
            due("a token too many", x.read(), ROOM);
            due("price", x.price(), 243 + i);
        }
    }

    private static void asIfFirst(CutStones x, CutStones first) {
        due("as if it were the first text", state(x).equals(state(first)) ? 1 : 0, 1);
        due("shine", x.shine(0, 0, 0, 1000, 10, 10, 0, 0), first.shine(0, 0, 0, 1000, 10, 10, 0, 0));
        due("dearest", x.dearest(1, 0, 0), first.dearest(1, 0, 0));
        due("as if it were the first text", state(x).equals(state(first)) ? 1 : 0, 1);
    }

    @Sentence("The byte of the latest read()'s FAULT; NONE without.")
    static void promise05TheLatestRead() {
        CutStones x = new CutStones();
        due("none was read", x.place(), NONE);
        feedText(x, "  ;");
        due("read", x.read(), SYNTAX);
        due("place", x.place(), 2);
        due("place again", x.place(), 2);
        feedText(x, "cut a '#; cut a '#;");
        due("not read yet", x.place(), 2);
        x.back(3);
        due("not read yet", x.place(), 2);
        feedText(x, " '#;");
        due("read", x.read(), TWICE);
        due("place", x.place(), 14);
        tell(x, "cut a '#;");
        due("without", x.place(), NONE);
        feedText(x, ";");
        due("read", x.read(), SYNTAX);
        due("byte 0", x.place(), 0);
        due("read of nothing", x.read(), 0);
        due("without", x.place(), NONE);
    }
}
