/** Promises 17 to 21: cuts laid into roughs, each boundary by a test of its own. */
public final class LayingEdgesTest extends Trial {
    private static final String CELLS = ".1234#x";
    private static final String FULL = times(12, " '############");

    public static void main(String[] args) throws Exception {
        runSentences(LayingEdgesTest.class, args);
    }

    // ==== 17, 18: fitting

    @Sentence("1 if a CUT FITS into a ROUGH at x, y (0 .. 11), else 0; NONE: no such ones.")
    static void promise17NoSuchOnes() {
        range("fits' CUT", 0, 1, (x, v) -> x.fits(v, 0, 0, 0));
        range("fits' ROUGH", 0, 1, (x, v) -> x.fits(0, v, 0, 0));
        range("fits' x", 0, 11, (x, v) -> x.fits(0, 0, v, 0));
        range("fits' y", 0, 11, (x, v) -> x.fits(0, 0, 0, v));
    }

    @Sentence("each of its cells that is not nothing lies on one that is full without a FLAW, or the same half as it")
    static void promise17CellsOnCells() {
        for (int cell = 0; cell < 7; cell++) {
            for (int under = 0; under < 7; under++) {
                CutStones x = told("cut a '#" + CELLS.charAt(cell) + "; rough r '#" + CELLS.charAt(under) + ";");
                boolean fits = cell == 0 || under == 5 || cell <= 4 && cell == under;
                due(CELLS.charAt(cell) + " on " + CELLS.charAt(under), x.fits(0, 0, 0, 0), fits ? 1 : 0);
            }
        }
    }

    @Sentence("each of its cells that is not nothing lies on one that is full without a FLAW, or the same half as it")
    static void promise17EachOfItsCells() {
        String[] cells = new String[9];
        for (int hole = 0; hole < 9; hole++) {
            for (int i = 0; i < 9; i++) {
                cells[i] = i == hole ? "x" : "#";
            }
            String rough = "'" + cells[0] + cells[1] + cells[2] + " '" + cells[3] + cells[4] + cells[5] + " '" + cells[6] + cells[7] + cells[8];
            CutStones x = told("cut a '### '### '###; cut b '111 '1#1 '111; cut c '.#. '#.# '.#.; rough r " + rough + ";");
            due("a FLAW at " + hole, x.fits(0, 0, 0, 0), 0);
            due("a FLAW at " + hole, x.fits(1, 0, 0, 0), 0);
            due("a FLAW at " + hole + " under a cross", x.fits(2, 0, 0, 0), hole % 2 == 0 ? 1 : 0);
        }
    }

    @Sentence("(its cell 0, 0 is the ROUGH's cell x, y; 0 .. 11)")
    static void promise17BeyondTheRough() {
        CutStones x = told("cut a '##; cut b '# '#; cut c '#. '..; cut d '.# '..; rough r" + FULL + "; rough s '## '##;");
        due("to the last column", x.fits(0, 0, 10, 0), 1);
        due("beyond the last column", x.fits(0, 0, 11, 0), 0);
        due("beyond the last column", x.fits(0, 0, 11, 5), 0);
        due("to the last row", x.fits(1, 0, 0, 10), 1);
        due("beyond the last row", x.fits(1, 0, 0, 11), 0);
        due("nothing may be beyond", x.fits(2, 0, 11, 11), 1);
        due("its cell 0, 0 is nothing", x.fits(3, 0, 10, 11), 1);
        due("its cell 1, 0 would be beyond", x.fits(3, 0, 11, 11), 0);
        due("in a small ROUGH", x.fits(0, 1, 0, 1), 1);
        due("beside it", x.fits(0, 1, 1, 0), 0);
        due("beside it", x.fits(2, 1, 2, 0), 0);
        due("below it", x.fits(2, 1, 0, 2), 0);
        due("far out", x.fits(2, 1, 11, 11), 0);
        due("its last place", x.fits(2, 1, 1, 1), 1);
        due("no place to the left of the ROUGH", x.fits(3, 1, -1, 0), NONE);
    }

    @Sentence("At how many x, y a CUT FITS into a ROUGH; NONE: no such ones.")
    static void promise18NoSuchOnes() {
        range("places' CUT", 0, 1, (x, v) -> x.places(v, 0));
        range("places' ROUGH", 0, 1, (x, v) -> x.places(0, v));
    }

    @Sentence("At how many x, y a CUT FITS into a ROUGH; NONE: no such ones.")
    static void promise18FromNowhereToEverywhere() {
        CutStones x = told("cut a '#; cut b" + FULL + "; cut c '1; cut d '#. '..; rough r" + FULL + "; rough s '1; rough t '##. '###;");
        due("everywhere", x.places(0, 0), 144);
        due("everywhere", x.places(3, 0), 144);
        due("in one place", x.places(1, 0), 1);
        due("too great", x.places(1, 1), 0);
        due("not on a half", x.places(0, 1), 0);
        due("on the same half", x.places(2, 1), 1);
        due("five cells", x.places(0, 2), 5);
    }

    // ==== 19: the dearest

    private static final String ROUND = "stuff s: 500 0; cut a '#; cut b '##; cut c '#; cut d '1; ";

    @Sentence("NONE, and nothing happens: no such ones.")
    static void promise19NoSuchOnes() {
        range("dearest's CUTS", 0, 3, (x, v) -> x.dearest(v, 0, 0));
        range("dearest's ROUGH", 0, 1, (x, v) -> x.dearest(1, v, 0));
        range("dearest's STUFF", 0, 1, (x, v) -> x.dearest(1, 0, v));
        refused("a bit far out", x -> x.dearest(1 << 30, 0, 0));
        refused("one that is and one that is not", x -> x.dearest(5, 0, 0));
        refused("all bits", x -> x.dearest(-1, 0, 0));
        CutStones y = told("stuff s: 1 1; cut a '#; cut b '#; cut c '#; cut d '#; cut e '#; cut f '#; rough r '#;");
        due("six CUTS", y.dearest(63, 0, 0), 0);
        due("the sixth", y.dearest(32, 0, 0), 0);
        due("laid", y.laid(1), 5);
        due("a seventh", y.dearest(64, 0, 0), NONE);
        due("laid", y.laid(1), 5);
        due("no CUT", told("stuff s: 1 1; rough r '#;").dearest(1, 0, 0), NONE);
    }

    @Sentence({"THE DEAREST of CUTS (bits; none of them may be told)", "-2: none FITS (and nothing is LAID any more)"})
    static void promise19NoneFits() {
        CutStones x = told(ROUND + "rough r '##; rough t '2; price p weight;");
        due("one", x.dearest(1, 0, 0), 2);
        due("laid", x.laid(1), 0);
        due("none FITS", x.dearest(15, 1, 0), -2);
        nothingLies(x);
        x.two(1, 0, 0);
        due("laid", x.laid(0), 1);
        due("none is told", x.dearest(0, 0, 0), -2);
        nothingLies(x);
        due("no CUTS", told("stuff s: 1 1; rough r '#;").dearest(0, 0, 0), -2);
    }

    @Sentence("of those that FIT somewhere that with the greatest PRICE")
    static void promise19TheGreatestPrice() {
        CutStones x = told(ROUND + "rough r '##; rough t '#; rough u '1; price p weight * 5;");
        due("the greatest", x.dearest(15, 0, 0), 20);
        lying(x, NONE, 1, 0, 0, NONE, NONE, NONE);
        due("of those that FIT", x.dearest(15, 1, 0), 10);
        lying(x, NONE, 0, 0, 0, NONE, NONE, NONE);
        due("of those that are told", x.dearest(13, 0, 0), 10);
        lying(x, NONE, 0, 0, 0, NONE, NONE, NONE);
        due("the only one", x.dearest(15, 2, 0), 5);
        lying(x, NONE, 3, 0, 0, NONE, NONE, NONE);
        CutStones y = told(ROUND + "rough r '##; price p 0 - weight;");
        due("a PRICE of 0", y.dearest(15, 0, 0), 0);
        lying(y, NONE, 0, 0, 0, NONE, NONE, NONE);
        CutStones z = told(ROUND + "rough r '##; price p 1000 * 1000 - 2 + weight;");
        due("all PRICES are held to 1000000", z.dearest(7, 0, 0), 1000000);
        lying(z, NONE, 0, 0, 0, NONE, NONE, NONE);
    }

    @Sentence("of these the first (the least CUT, y, then x)")
    static void promise19TheFirst() {
        CutStones x = told("stuff s: 500 0; cut a '1; cut b '2; cut c '#; rough r '.2. '#1.; rough t '..2 '2..; price p 5;");
        due("the least CUT, though another lies higher", x.dearest(7, 0, 0), 5);
        lying(x, NONE, 0, 0, 1, NONE, NONE, NONE);
        due("the least of those that FIT", x.dearest(7, 1, 0), 5);
        lying(x, NONE, 1, 2, 0, NONE, NONE, NONE);
        due("the least of those that are told", x.dearest(6, 0, 0), 5);
        lying(x, NONE, 1, 1, 0, NONE, NONE, NONE);
    }

    @Sentence("of these the first (the least CUT, y, then x)")
    static void promise19TheLeastRowThenTheLeastColumn() {
        CutStones x = told("stuff s: 500 0; cut a '#; cut b '1; rough r '...# '##.#; rough t '.1## '#..#; rough u '1. '#.; price p 7;");
        due("row 0 ahead of column 0", x.dearest(1, 0, 0), 7);
        lying(x, NONE, 0, 3, 0, NONE, NONE, NONE);
        due("the least column of the row", x.dearest(1, 1, 0), 7);
        lying(x, NONE, 0, 2, 0, NONE, NONE, NONE);
        due("the half's own", x.dearest(2, 1, 0), 7);
        lying(x, NONE, 1, 1, 0, NONE, NONE, NONE);
        due("CUT 0 though CUT 1 lies higher", x.dearest(3, 2, 0), 7);
        lying(x, NONE, 0, 0, 1, NONE, NONE, NONE);
    }

    @Sentence("(by a SHINE with L 1000 above each column, 0 beside, no HEAD, COLOUR 0)")
    static void promise19ByWhichShine() {
        CutStones x = told("stuff s: 500 0, 0 0; cut a '##; rough r '####; price p bright * 1000 + leak + colour * 9000;");
        // each of two columns: 166 up, 333 down
        due("dearest", x.dearest(1, 0, 0), 332666);
        due("no SHINE is remembered by it", x.seen(0), NONE);
        x.shine(0, 0, 1, 7, 500, 500, 0, 0);
        due("dearest", x.dearest(1, 0, 0), 332666);
        due("two", x.two(1, 0, 0), 665332);
        due("the SHINE is the one that was", x.seen(8), 1007);
        due("the PRICE by it", x.price(), 9000);
        CutStones y = told("stuff s: 1000 0; cut a '1; cut b '2; rough r '12; price p bright;");
        due("light from beside would go up", y.dearest(1, 0, 0) + y.dearest(2, 0, 0) + y.two(3, 0, 0), 0);
    }

    // ==== 20: the two

    @Sentence("NONE, and nothing happens: no such ones.")
    static void promise20NoSuchOnes() {
        range("two's CUTS", 0, 3, (x, v) -> x.two(v, 0, 0));
        range("two's ROUGH", 0, 1, (x, v) -> x.two(1, v, 0));
        range("two's STUFF", 0, 1, (x, v) -> x.two(1, 0, v));
        refused("a bit far out", x -> x.two(1 << 30, 0, 0));
        refused("one that is and one that is not", x -> x.two(5, 0, 0));
        refused("all bits", x -> x.two(-1, 0, 0));
    }

    @Sentence("-2: there are none (and nothing is LAID any more)")
    static void promise20ThereAreNone() {
        CutStones x = told(ROUND + "rough r '##; rough t '#.; rough u '#; rough v '.# '.#; price p weight;");
        due("two", x.two(1, 0, 0), 4);
        lying(x, 1, 0, 0, 0, 0, 1, 0);
        due("one side only", x.two(1, 1, 0), -2);
        nothingLies(x);
        x.dearest(1, 0, 0);
        due("no SAW in one column", x.two(1, 2, 0), -2);
        nothingLies(x);
        x.two(1, 0, 0);
        due("two in one column", x.two(1, 3, 0), -2);
        nothingLies(x);
        x.two(1, 0, 0);
        due("none is told", x.two(0, 0, 0), -2);
        nothingLies(x);
        x.two(1, 0, 0);
        due("too wide for a side", x.two(2, 0, 0), -2);
        nothingLies(x);
    }

    @Sentence("(k: left of column k, 1 .. WIDE less 1)")
    static void promise20TheSaw() {
        CutStones x = told("stuff s: 500 0; cut a '1; cut b '###########; rough r '###########1; rough t '1###########; rough u '11; price p weight;");
        due("the last SAW", x.two(3, 0, 0), 23);
        lying(x, 11, 1, 0, 0, 0, 11, 0);
        due("the first SAW", x.two(3, 1, 0), 23);
        lying(x, 1, 0, 0, 0, 1, 1, 0);
        due("the only SAW", x.two(3, 2, 0), 2);
        lying(x, 1, 0, 0, 0, 0, 1, 0);
        due("none for two of eleven", x.two(2, 0, 0), -2);
    }

    @Sentence("one of the CUTS left of it, one (it may be the same) from it on")
    static void promise20ItMayBeTheSame() {
        CutStones x = told("stuff s: 500 0; cut a '##; cut b '#; rough r '####; rough t '###; price p weight;");
        due("the same", x.two(3, 0, 0), 8);
        lying(x, 2, 0, 0, 0, 0, 2, 0);
        due("one of each", x.two(3, 1, 0), 6);
        lying(x, 1, 1, 0, 0, 0, 1, 0);
    }

    @Sentence("both FIT and lie wholly (all cells that are not nothing) on their side")
    static void promise20WhollyOnTheirSide() {
        // cells that are nothing may lie on the other side, and beyond the ROUGH
        CutStones x = told("stuff s: 500 0; cut a '#..; cut b '..#; rough r '###; rough t '1###; price p weight;");
        due("a left and a right", x.two(1, 0, 0), 4);
        lying(x, 1, 0, 0, 0, 0, 1, 0);
        due("a and b", x.two(3, 0, 0), 4);
        lying(x, 1, 0, 0, 0, 0, 1, 0);
        due("b cannot lie left of column 2", x.two(2, 0, 0), -2);
        due("b left and right", x.two(2, 1, 0), 4);
        lying(x, 3, 1, 0, 0, 1, 1, 0);
        // no cell of either may lie beyond the SAW
        CutStones y = told("stuff s: 500 0; cut a '#.#; rough r '####; rough t '###### '######; price p weight;");
        due("they would reach over it", y.two(1, 0, 0), -2);
        due("side by side", y.two(1, 1, 0), 8);
        lying(y, 3, 0, 0, 0, 0, 3, 0);
    }

    @Sentence("the greatest sum of PRICES")
    static void promise20TheGreatestSum() {
        CutStones x = told("stuff s: 500 0; cut a '#; cut b '###; cut c '#####; rough r '######; rough t '####.#; price p weight * weight;");
        due("one great one", x.two(7, 0, 0), 104);
        lying(x, 1, 0, 0, 0, 2, 1, 0);
        due("without it", x.two(3, 0, 0), 72);
        lying(x, 3, 1, 0, 0, 1, 3, 0);
        due("the great one does not FIT", x.two(7, 1, 0), 40);
        lying(x, 1, 0, 0, 0, 1, 1, 0);
        CutStones y = told("stuff s: 500 0; cut a '#; rough r '##; price p 1000 * 1000;");
        due("each is held to 1000000, not the sum", y.two(1, 0, 0), 2000000);
        due("a sum of 0", told("stuff s: 500 0; cut a '#; rough r '##;").two(1, 0, 0), 0);
    }

    @Sentence("of these the first (the least k, then the left one's CUT, then the right one's; each where it FITS first on its side)")
    static void promise20TheLeastSaw() {
        CutStones x = told("stuff s: 500 0; cut a '#; cut b '#; rough r '.#.#.#; rough t '####; price p 5;");
        due("the least k", x.two(3, 0, 0), 10);
        lying(x, 2, 0, 1, 0, 0, 3, 0);
        due("the least k", x.two(2, 1, 0), 10);
        lying(x, 1, 1, 0, 0, 1, 1, 0);
    }

    @Sentence("of these the first (the least k, then the left one's CUT, then the right one's; each where it FITS first on its side)")
    static void promise20TheLeastCuts() {
        CutStones x = told("stuff s: 500 0; cut a '2; cut b '1; cut c '#; rough r '#2; rough t '1#; rough u '12; price p 5;");
        due("left a, right a", x.two(7, 0, 0), 10);
        lying(x, 1, 0, 0, 0, 0, 1, 0);
        due("left b, right a", x.two(7, 1, 0), 10);
        lying(x, 1, 1, 0, 0, 0, 1, 0);
        due("left b, right a", x.two(7, 2, 0), 10);
        lying(x, 1, 1, 0, 0, 0, 1, 0);
        due("left b, right c", x.two(6, 1, 0), 10);
        lying(x, 1, 1, 0, 0, 1, 1, 0);
        due("left c, right c", x.two(4, 0, 0), -2);
        // the least k with a greater CUT, ahead of a greater k with the least
        CutStones y = told("stuff s: 500 0; cut a '2; cut b '1; rough r '122;");
        due("the least k", y.two(3, 0, 0), 0);
        lying(y, 1, 1, 0, 0, 0, 1, 0);
    }

    @Sentence("each where it FITS first on its side")
    static void promise20WhereItFitsFirst() {
        CutStones x = told("stuff s: 500 0; cut a '#; cut b '# '#; rough r '...#. '#.##. '#.#..; rough t '...## '##.#. '##.#.; price p weight;");
        // left of the SAW the row decides; right of it a higher row goes ahead of a lesser column
        due("a", x.two(1, 0, 0), 4);
        lying(x, 1, 0, 0, 1, 0, 3, 0);
        due("b", x.two(2, 0, 0), 8);
        lying(x, 1, 1, 0, 1, 1, 3, 0);
        due("b", x.two(2, 1, 0), 8);
        lying(x, 1, 1, 0, 1, 1, 3, 0);
        due("a", x.two(1, 1, 0), 4);
        lying(x, 1, 0, 0, 1, 0, 3, 0);
    }

    // ==== 21: what is laid

    @Sentence("NONE: nothing is, no such one.")
    static void promise21NoSuchOne() {
        range("laid", 0, 6, (x, v) -> x.laid(v));
        CutStones x = told(ROUND + "rough r '##;");
        for (int what = -1; what <= 7; what++) {
            due("nothing is", x.laid(what), NONE);
        }
    }

    @Sentence("0 the SAW (NONE: of THE DEAREST), 1 the CUT, 2 its x, 3 its y, 4 .. 6 likewise of the right one of two")
    static void promise21DearestHasNoSaw() {
        CutStones x = told("stuff s: 500 0; cut a '#; cut b '##; rough r '....# '.###.;");
        x.two(1, 0, 0);
        lying(x, 2, 0, 1, 1, 0, 4, 0);
        x.dearest(2, 0, 0);
        lying(x, NONE, 1, 1, 1, NONE, NONE, NONE);
        x.two(1, 0, 0);
        lying(x, 2, 0, 1, 1, 0, 4, 0);
        x.dearest(1, 0, 0);
        lying(x, NONE, 0, 4, 0, NONE, NONE, NONE);
        due("fits leaves it", x.fits(0, 0, 0, 0), 0);
        due("places leaves it", x.places(0, 0), 4);
        lying(x, NONE, 0, 4, 0, NONE, NONE, NONE);
    }
}
