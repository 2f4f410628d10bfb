/** Promises 22 to 28: tests that bar stuffs, the next one, and counts, each boundary by a test of its own. */
public final class BarringEdgesTest extends Trial {
    public static void main(String[] args) throws Exception {
        runSentences(BarringEdgesTest.class, args);
    }

    // ==== 22, 23: tests and voids

    @Sentence("A TEST: its number. NONE, and nothing happens: 60 are there (with VOIDS), no such ones (bright 0 .. 100000).")
    static void promise22NoSuchOnes() {
        range("test's CUT", 0, 1, (x, v) -> x.test(v, 0, 0));
        range("test's COLOUR", 0, 3, (x, v) -> x.test(0, v, 0));
        range("test's bright", 0, 100000, (x, v) -> x.test(0, 0, v));
        due("no CUT", told("stuff s: 1 1;").test(0, 0, 0), NONE);
        due("no STUFF is needed", told("cut a '#;").test(0, 0, 0), 0);
    }

    @Sentence("TESTS, numbered from 0 on, 60 at most")
    static void promise22SixtyTests() {
        CutStones x = told("stuff s: 500 0; cut a '#;");
        for (int i = 0; i < 60; i++) {
            due("test", x.test(0, 0, 100000), i);
            due("count(5)", x.count(5), i + 1);
        }
        refusedBy(x, "a 61st TEST", y -> y.test(0, 0, 166));
        refusedBy(x, "a VOID as the 61st", y -> y.annul(0));
        due("the last one counts", x.barred(0, 60), 0);
    }

    @Sentence("60 are there (with VOIDS)")
    static void promise22SixtyWithVoids() {
        CutStones x = told("stuff s: 500 0; cut a '#;");
        for (int i = 0; i < 30; i++) {
            due("test", x.test(0, 0, 0), 2 * i);
            due("annul", x.annul(2 * i), 2 * i + 1);
        }
        due("count(5)", x.count(5), 60);
        due("all are VOID", x.barred(0, 60), -2);
        due("but for the last", x.barred(0, 59), 58);
        refusedBy(x, "a 61st", y -> y.test(0, 0, 0));
        refusedBy(x, "a 61st", y -> y.annul(58));
    }

    @Sentence("A VOID of a TEST: its number. NONE, and nothing happens: 60 are there, no such TEST.")
    static void promise23NoSuchTest() {
        // the busy one has TESTS 0 and 1, and a VOID 2
        range("annul", 0, 1, (x, v) -> x.annul(v));
        due("its number", busy().annul(1), 3);
        refusedBy(told("cut a '#;"), "no TEST", x -> x.annul(0));
        CutStones x = told("cut a '#;");
        x.test(0, 0, 0);
        x.annul(0);
        x.test(0, 0, 0);
        due("a VOID is no TEST", x.annul(1), NONE);
        due("the TEST behind it is one", x.annul(2), 3);
        due("count(5)", x.count(5), 4);
        tell(x, "cut a '#;");
        for (int i = 0; i < 4; i++) {
            due("the TESTS are gone", x.annul(i), NONE);
        }
        due("count(5)", x.count(5), 0);
        x.test(0, 0, 0);
        for (int i = 1; i < 4; i++) {
            due("the TESTS are gone", x.annul(i), NONE);
        }
    }

    @Sentence("VOIDS of TESTS in one row with them.")
    static void promise23AVoidTwice() {
        CutStones x = told("stuff s: 500 0; cut a '#;");
        x.test(0, 0, 0);
        due("annul", x.annul(0), 1);
        due("once more", x.annul(0), 2);
        due("count(5)", x.count(5), 3);
        due("it stays VOID", x.barred(0, 3), -2);
        for (int i = 3; i < 60; i++) {
            due("annul", x.annul(0), i);
        }
        due("no more", x.annul(0), NONE);
        due("count(5)", x.count(5), 60);
    }

    // ==== 24: bright

    @Sentence("BRIGHT of a CUT, a STUFF, a COLOUR with 1000 above each column alone; NONE: no such ones.")
    static void promise24NoSuchOnes() {
        range("bright's CUT", 0, 1, (x, v) -> x.bright(v, 0, 0));
        range("bright's STUFF", 0, 1, (x, v) -> x.bright(0, v, 0));
        range("bright's COLOUR", 0, 3, (x, v) -> x.bright(0, 0, v));
    }

    @Sentence("BRIGHT of a CUT, a STUFF, a COLOUR with 1000 above each column alone; NONE: no such ones.")
    static void promise24WithAThousandAboveAlone() {
        CutStones x = told("stuff s: 500 0, 0 0, 1000 0; stuff t: 0 0; cut a '#; cut b '#.#; cut c '1;");
        int[][] brights = {{166, 0, 0, 0}, {332, 0, 0, 0}, {166, 0, 0, 0}};
        for (int i = 0; i < 2; i++) {
            for (int cut = 0; cut < 3; cut++) {
                for (int colour = 0; colour < 4; colour++) {
                    due("bright " + cut + " " + colour, x.bright(cut, 0, colour), brights[cut][colour]);
                    due("bright of t", x.bright(cut, 1, colour), 0);
                }
            }
            x.shine(0, 0, 0, 100000, 100000, 100000, 0, 0);
        }
        due("the SHINE is the one that was", x.seen(8), 200000);
        // light from beside would go up
        CutStones y = told("stuff s: 1000 0; cut a '1; cut b '2;");
        due("nothing beside", y.bright(0, 0, 0) + y.bright(1, 0, 0), 0);
        due("twelve columns", told("stuff s: 500 0; cut a '############;").bright(0, 0, 0), 12 * 166);
    }

    // ==== 25: barred

    private static int barredBy(int flat, int b) {
        CutStones x = told("stuff s: " + flat + " 0; cut a '#;");
        x.test(0, 0, b);
        return x.barred(0, 1);
    }

    @Sentence("whose BRIGHT b and the STUFF's own are further apart than b / 20 + 5")
    static void promise25FurtherApart() {
        due("an own of 166", told("stuff s: 500 0; cut a '#;").bright(0, 0, 0), 166);
        int[][] near = {
            // b, and whether it bars 166
            {0, 0}, {152, 0}, {153, 0}, {154, -2}, {155, -2}, {166, -2}, {179, -2}, {180, -2}, {181, 0}, {182, 0}, {1000, 0}, {100000, 0},
        };
        for (int[] t : near) {
            due("166 by " + t[0], barredBy(500, t[0]), t[1]);
        }
        // nothing comes in: an own of 0
        int[][] ofNothing = {{0, -2}, {4, -2}, {5, -2}, {6, 0}, {19, 0}, {20, 0}, {100000, 0}};
        for (int[] t : ofNothing) {
            due("0 by " + t[0], barredBy(0, t[0]), t[1]);
        }
        // one goes out each time while L * 37 or L * 38 is 1000 at least: five times up, six times up
        due("an own of 5", told("stuff s: 37 0; cut a '#;").bright(0, 0, 0), 5);
        due("an own of 6", told("stuff s: 38 0; cut a '#;").bright(0, 0, 0), 6);
        due("5 by 0", barredBy(37, 0), -2);
        due("6 by 0", barredBy(38, 0), 0);
        // 19 / 20 is 0, 20 / 20 is 1
        due("an own of 14", told("stuff s: 48 0; cut a '#;").bright(0, 0, 0), 14);
        due("14 by 19", barredBy(48, 19), -2);
        due("14 by 20", barredBy(48, 20), -2);
        due("14 by 21", barredBy(48, 21), 0);
        due("14 by 9", barredBy(48, 9), -2);
        due("14 by 8", barredBy(48, 8), 0);
    }

    @Sentence("A STUFF is BARRED by the first TEST KNOWN by n, not VOID by these")
    static void promise25TheFirstThatStands() {
        CutStones x = told("stuff s: 500 0; stuff t: 0 0; cut a '#;");
        x.test(0, 0, 166);
        x.test(0, 0, 0);
        x.test(0, 0, 1000);
        due("s", x.barred(0, 3), 1);
        due("t", x.barred(1, 3), 0);
        x.annul(1);
        x.annul(0);
        due("s without TEST 1", x.barred(0, 4), 2);
        due("s without TESTS 0, 1", x.barred(0, 5), 2);
        due("t without TEST 1", x.barred(1, 4), 0);
        due("t without TESTS 0, 1", x.barred(1, 5), 2);
        x.annul(2);
        due("s without all", x.barred(0, 6), -2);
        due("t without all", x.barred(1, 6), -2);
        due("a VOID bars none, and one more TEST does", x.test(0, 0, 500), 6);
        due("s", x.barred(0, 7), 6);
    }

    @Sentence("KNOWN by n: the first n of both.")
    static void promise25KnownByN() {
        CutStones x = told("stuff s: 500 0; cut a '#;");
        x.test(0, 0, 0);
        x.annul(0);
        x.test(0, 0, 1);
        x.annul(2);
        x.test(0, 0, 2);
        int[] barring = {-2, 0, -2, 2, -2, 4};
        for (int n = 0; n <= 5; n++) {
            due("known by " + n, x.barred(0, n), barring[n]);
            due("left by " + n, x.left(n), barring[n] == -2 ? 1 : 0);
        }
    }

    @Sentence("The TEST by which a STUFF is BARRED, as KNOWN by n; -2: by none; NONE: no such ones.")
    static void promise25NoSuchOnes() {
        range("barred's STUFF", 0, 1, (x, v) -> x.barred(v, 0));
        range("barred's n", 0, 3, (x, v) -> x.barred(0, v));
        CutStones x = told("stuff s: 500 0; cut a '#;");
        due("no TEST", x.barred(0, 0), -2);
        due("not so many", x.barred(0, 1), NONE);
        due("no STUFF", told("cut a '#;").barred(0, 0), NONE);
    }

    @Sentence("a CUT, a COLOUR, what of 1000 above each column (alone) was seen BRIGHT, by an unknown STUFF")
    static void promise25ByItsOwnCutAndColour() {
        CutStones x = told("stuff s: 500 0, 0 0; cut a '#; cut b '##;");
        int[][] tests = {{0, 0, 166}, {0, 1, 0}, {0, 3, 0}, {1, 0, 332}, {1, 2, 0}};
        for (int[] t : tests) {
            x.test(t[0], t[1], t[2]);
        }
        due("all as seen", x.barred(0, 5), -2);
        x.test(1, 0, 166);
        due("another CUT", x.barred(0, 6), 5);
        CutStones y = told("stuff s: 500 0, 0 0; cut a '#;");
        y.test(0, 1, 166);
        due("another COLOUR", y.barred(0, 1), 0);
    }

    // ==== 26: left

    @Sentence("STUFFS (bits) that are not BARRED, as KNOWN by n; NONE: no such n.")
    static void promise26NoSuchN() {
        range("left's n", 0, 3, (x, v) -> x.left(v));
        CutStones x = new CutStones();
        due("no STUFFS", x.left(0), 0);
        due("no n", x.left(1), NONE);
        due("no n", x.left(-1), NONE);
    }

    @Sentence("STUFFS (bits) that are not BARRED, as KNOWN by n; NONE: no such n.")
    static void promise26Bits() {
        CutStones x = told("stuff s: 500 0, 0 0, 0 0, 0 0; stuff t: 0 0, 500 0, 0 0, 0 0; stuff u: 0 0, 0 0, 500 0, 0 0; stuff v: 0 0, 0 0, 0 0, 500 0; cut a '#;");
        due("all", x.left(0), 15);
        for (int colour = 0; colour < 4; colour++) {
            due("test", x.test(0, colour, 0), colour);
            due("without " + colour, x.left(colour + 1), 15 & -(2 << colour));
        }
        due("none", x.left(4), 0);
        x.annul(2);
        due("one again", x.left(5), 4);
    }

    // ==== 27: the next test

    @Sentence("THE NEXT TEST, as KNOWN by n: 4 * CUT + COLOUR; -2: fewer than two STUFFS are not BARRED, no CUT; NONE: no such n.")
    static void promise27NoSuchN() {
        CutStones x = told("stuff s: 500 0; stuff t: 0 0; cut a '#;");
        due("next(0)", x.next(0), 0);
        due("next(1)", x.next(1), NONE);
        due("next(-1)", x.next(-1), NONE);
        due("next(LOW)", x.next(LOW), NONE);
        due("next(HIGH)", x.next(HIGH), NONE);
        range("next's n", 0, 3, (y, v) -> y.next(v));
        due("a new one", new CutStones().next(0), -2);
        due("a new one", new CutStones().next(1), NONE);
    }

    @Sentence("-2: fewer than two STUFFS are not BARRED, no CUT")
    static void promise27FewerThanTwoOrNoCut() {
        CutStones x = told("stuff s: 500 0; stuff t: 0 0; stuff u: 500 0; cut a '#;");
        due("three", x.next(0), 0);
        x.test(0, 0, 166);
        due("two, though alike", x.next(1), 0);
        x.test(0, 0, 1000);
        due("none", x.next(2), -2);
        x.annul(0);
        x.annul(1);
        due("three again", x.next(4), 0);
        x.test(0, 0, 0);
        due("one", x.next(5), -2);
        due("one STUFF", told("stuff s: 500 0; cut a '#;").next(0), -2);
        due("no STUFF", told("cut a '#;").next(0), -2);
        due("no CUT", told("stuff s: 500 0; stuff t: 0 0;").next(0), -2);
    }

    @Sentence("of all CUTS and COLOURS that at which the BRIGHT of STUFFS that are not BARRED lie furthest apart (greatest less least)")
    static void promise27FurthestApart() {
        // by COLOURS 0 .. 3 the BRIGHT of '# is of s 166 133 166 0, of t 166 166 0 166
        CutStones x = told("stuff s: 500 0, 800 0, 500 0, 0 0; stuff t: 500 0, 500 0, 0 0, 500 0; stuff u: 0 0; cut a '#; cut b '##; cut c '###;");
        due("with u the first COLOUR of the widest CUT", x.next(0), 8);
        x.test(0, 0, 166);
        due("u is BARRED", x.left(1), 3);
        due("s and t: 0, 99, 498, 498", x.next(1), 10);
        // by one alone: none and one, five and six
        due("an own of 1", told("stuff s: 33 0; cut a '#;").bright(0, 0, 0), 1);
        due("0 and 1", told("stuff s: 0 0, 33 0, 0 0; stuff t: 0 0; cut a '#;").next(0), 1);
        due("5 and 6", told("stuff s: 500 0, 37 0, 500 0; stuff t: 500 0, 38 0, 500 0; cut a '#;").next(0), 1);
        // three STUFFS: the greatest less the least, not neighbours
        CutStones y = told("stuff s: 500 0, 500 0; stuff t: 0 0, 37 0; stuff u: 500 0, 38 0; stuff v: 37 0, 0 0; cut a '#;");
        due("166 less 0 both", y.next(0), 0);
        CutStones z = told("stuff s: 500 0, 500 0; stuff t: 37 0, 37 0; stuff u: 38 0, 0 0; cut a '#;");
        due("166 less 5, 166 less 0", z.next(0), 1);
    }

    @Sentence("of these the least CUT, then COLOUR")
    static void promise27TheLeastCutThenColour() {
        due("all alike", told("stuff s: 1 1; stuff t: 1 1; cut a '#; cut b '#;").next(0), 0);
        due("the least CUT", told("stuff s: 500 0; stuff t: 0 0; cut a '.#; cut b '#; cut c '#;").next(0), 0);
        due("the least COLOUR", told("stuff s: 0 0, 0 0, 500 0, 500 0; stuff t: 0 0; cut a '#; cut b '#;").next(0), 2);
        due("the last COLOUR", told("stuff s: 0 0, 0 0, 0 0, 500 0; stuff t: 0 0; cut a '#; cut b '#;").next(0), 3);
        // CUT 1 has it at COLOUR 0, CUT 0, where the FLAW eats all of s, from COLOUR 1 on
        CutStones x = told("stuff s: 500 0, 0 0 eats 1000; stuff t: 0 0, 500 0 eats 0; cut a 'x; cut b '#;");
        due("CUT 1 at COLOUR 0", x.bright(1, 0, 0) - x.bright(1, 1, 0), 166);
        due("CUT 0 at COLOUR 0", x.bright(0, 0, 0) - x.bright(0, 1, 0), 0);
        due("CUT 0 at COLOUR 1", x.bright(0, 1, 1) - x.bright(0, 0, 1), 166);
        due("the least CUT ahead of the least COLOUR", x.next(0), 1);
        String six = "cut a 'x; cut b 'x; cut c 'x; cut d 'x; cut e 'x; cut f '#;";
        due("the last of all", told("stuff s: 0 0, 0 0, 0 0, 500 0 eats 1000; stuff t: 0 0; " + six).next(0), 23);
    }

    // ==== 28: count

    @Sentence("10 and a CUT's number: its columns, 20 likewise: its rows; 30, 40 likewise of ROUGHS. NONE for others.")
    static void promise28ColumnsAndRows() {
        StringBuilder text = new StringBuilder();
        for (int i = 0; i < 6; i++) {
            text.append("cut c").append((char) ('a' + i)).append(times(12 - i, " '" + times(i + 1, "#"))).append(';');
        }
        for (int i = 0; i < 4; i++) {
            text.append("rough r").append((char) ('a' + i)).append(times(i + 1, " '" + times(12 - i, "#"))).append(';');
        }
        CutStones x = told(text.toString());
        for (int i = 0; i < 10; i++) {
            due("columns of CUT " + i, x.count(10 + i), i < 6 ? i + 1 : NONE);
            due("rows of CUT " + i, x.count(20 + i), i < 6 ? 12 - i : NONE);
            due("columns of ROUGH " + i, x.count(30 + i), i < 4 ? 12 - i : NONE);
            due("rows of ROUGH " + i, x.count(40 + i), i < 4 ? i + 1 : NONE);
        }
        for (int what : new int[] {-1, 7, 8, 9, 50, 51, 60, 110, -10, -20, -30, -40, LOW, LOW + 10, HIGH}) {
            due("count(" + what + ")", x.count(what), NONE);
        }
    }

    @Sentence("0 STUFFS, 1 CUTS, 2 ROUGHS, 3 GRADES, 4 PRICES, 5 TESTS and VOIDS, 6 bytes on the tape")
    static void promise28OfEachKind() {
        CutStones x = told("stuff s: 1 1; cut a '#; cut b '#; rough c '#; rough d '#; rough e '#; grade f if 1 < 2; grade g if 1 < 2; grade h if 1 < 2;"
                + "grade i if 1 < 2; price j 1; price k 1; price l 1; price m 1; price n 1;");
        x.test(0, 0, 0);
        x.test(0, 0, 0);
        x.test(0, 0, 0);
        x.annul(1);
        x.annul(1);
        x.annul(1);
        x.feed(0, 0, 0, 0, 0);
        x.back(13);
        int[] want = {1, 2, 3, 4, 5, 6, 7, NONE, NONE, NONE};
        for (int i = 0; i < want.length; i++) {
            due("count(" + i + ")", x.count(i), want[i]);
        }
    }
}
