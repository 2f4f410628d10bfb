/** Promises 6 to 16, and what the document says of light: each boundary by a test of its own. */
public final class LightEdgesTest extends Trial {
    private static final String CELLS = ".1234#x";
    /** By cells: whether there is a SIDE up, right, down, left. */
    private static final String[] SIDES = {"0000", "1001", "1100", "0110", "0011", "1111", "1111"};

    public static void main(String[] args) throws Exception {
        runSentences(LightEdgesTest.class, args);
    }

    private static boolean hasSide(int cell, int way) {
        return SIDES[cell].charAt(way) == '1';
    }

    /** The way of a half's other SIDE. */
    private static int otherSide(int half, int way) {
        int other = 0;
        for (int i = 0; i < 4; i++) {
            other = hasSide(half, i) && i != way ? i : other;
        }
        return other;
    }

    private static void outThatWay(CutStones x, int way, int l) {
        int[] want = new int[7];
        want[way] = l;
        sparks(x, want);
    }

    private static void allGlare(CutStones x, String call, int got, int l) {
        due(call, got, 0);
        sparks(x, 0, 0, 0, 0, l, 0, 0);
        due("no STEP", x.step(0), NONE);
    }

    // ==== 6, 7, 8: drawings

    @Sentence("WEIGHT: two for each full cell (with a FLAW, too), one for each half.")
    static void promise06Weights() {
        int[] weights = {0, 1, 1, 1, 1, 2, 2};
        for (int i = 1; i < 7; i++) {
            CutStones x = told("cut a '" + CELLS.charAt(i) + "; rough b '" + CELLS.charAt(i) + "; cut c '#" + CELLS.charAt(i) + ";");
            due("CUT " + CELLS.charAt(i), x.weight(false, 0), weights[i]);
            due("ROUGH " + CELLS.charAt(i), x.weight(true, 0), weights[i]);
            due("two cells", x.weight(false, 1), 2 + weights[i]);
        }
        String rows = times(12, " '" + times(12, "#"));
        due("the greatest", told("cut a" + rows + ";").weight(false, 0), 288);
        due("the greatest", told("rough a" + rows + ";").weight(true, 0), 288);
        due("nothing weighs nothing", told("cut a '...........1 '............;").weight(false, 0), 1);
    }

    @Sentence("WEIGHT of a CUT, of a ROUGH (rough); NONE: no such one.")
    static void promise06NoSuchOne() {
        range("weight of CUT", 0, 1, (x, v) -> x.weight(false, v));
        range("weight of ROUGH", 0, 1, (x, v) -> x.weight(true, v));
        CutStones x = told("cut a '#; cut b '#; cut c '#; cut d '#; cut e '#; cut f '#; rough g '1; rough h '1; rough i '1; rough j '1;");
        due("CUT 5", x.weight(false, 5), 2);
        due("CUT 6", x.weight(false, 6), NONE);
        due("ROUGH 3", x.weight(true, 3), 1);
        due("ROUGH 4", x.weight(true, 4), NONE);
        due("no ROUGH", told("cut a '#;").weight(true, 0), NONE);
        due("no CUT", told("rough a '#;").weight(false, 0), NONE);
    }

    @Sentence("What a cell is: 0 nothing, 1 .. 4 half, 5 full, 6 with a FLAW;")
    static void promise07WhatACellIs() {
        CutStones x = told("cut a '" + CELLS + "; rough b '" + CELLS + ";");
        for (int i = 0; i < 7; i++) {
            due("CUT's cell " + i, x.cell(false, 0, i, 0), i);
            due("ROUGH's cell " + i, x.cell(true, 0, i, 0), i);
        }
    }

    @Sentence("NONE: no such ones.")
    static void promise07NoSuchCell() {
        // the CUT 1 is three wide and two high, the ROUGH 1 two wide and three high
        range("CUT", 0, 1, (x, v) -> x.cell(false, v, 0, 0));
        range("ROUGH", 0, 1, (x, v) -> x.cell(true, v, 0, 0));
        range("CUT's x", 0, 2, (x, v) -> x.cell(false, 1, v, 0));
        range("CUT's y", 0, 1, (x, v) -> x.cell(false, 1, 0, v));
        range("ROUGH's x", 0, 1, (x, v) -> x.cell(true, 1, v, 0));
        range("ROUGH's y", 0, 2, (x, v) -> x.cell(true, 1, 0, v));
        CutStones x = told("cut a" + times(12, " '############") + ";");
        due("the last one", x.cell(false, 0, 11, 11), 5);
        due("no column 12", x.cell(false, 0, 12, 0), NONE);
        due("no row 12", x.cell(false, 0, 0, 12), NONE);
        due("no column -1", x.cell(false, 0, -1, 1), NONE);
    }

    @Sentence("1 if a CUT is the same from left to right (halves mirrored), else 0;")
    static void promise08HalvesMirrored() {
        String mirrored = ".2143#x";
        for (int a = 0; a < 7; a++) {
            for (int b = 0; b < 7; b++) {
                CutStones x = told("cut a '" + CELLS.charAt(a) + "#" + CELLS.charAt(b) + ";");
                due("even " + CELLS.charAt(a) + "#" + CELLS.charAt(b), x.even(0), mirrored.charAt(a) == CELLS.charAt(b) ? 1 : 0);
            }
            due("the middle one " + CELLS.charAt(a), told("cut a '#" + CELLS.charAt(a) + "#;").even(0), a == 0 || a > 4 ? 1 : 0);
        }
        due("one full", told("cut a '#;").even(0), 1);
        due("one half", told("cut a '1;").even(0), 0);
        due("twelve", told("cut a '1x3..##..4x2;").even(0), 1);
        due("twelve, the inmost not", told("cut a '1x3..#1..4x2;").even(0), 0);
        due("the last row", told("cut a" + times(11, " '##") + " '#x;").even(0), 0);
        due("the first row", told("cut a '.#" + times(11, " '##") + ";").even(0), 0);
    }

    @Sentence("NONE: no such one.")
    static void promise08NoSuchOne() {
        range("even", 0, 1, (x, v) -> x.even(v));
        due("no CUT", told("rough a '#;").even(0), NONE);
    }

    // ==== 9: light

    @Sentence("NONE, and nothing happens: no such ones.")
    static void promise09NoSuchOnes() {
        range("ray's CUT", 0, 1, (x, v) -> x.ray(v, 0, 0, 0, 0, 1000));
        range("ray's STUFF", 0, 1, (x, v) -> x.ray(0, v, 0, 0, 0, 1000));
        range("ray's COLOUR", 0, 3, (x, v) -> x.ray(0, 0, v, 0, 0, 1000));
    }

    @Sentence("LIGHT of L (1 .. 100000) alone from a LAMP")
    static void promise09LightOfOneTo100000() {
        range("ray's L", 1, 100000, (x, v) -> x.ray(0, 1, 0, 0, 0, v));
        refused("no light", x -> x.ray(0, 1, 0, 0, 0, 0));
        CutStones x = told("stuff s: 1000 500; cut a '1;");
        x.ray(0, 0, 0, 0, 0, 100000);
        sparks(x, 0, 0, 50000, 50000, 0, 0, 0);
        x.ray(0, 0, 0, 0, 0, 1);
        sparks(x, 0, 0, 0, 1, 0, 0, 0);
    }

    @Sentence("(0 above a column, 1 right of a row, 3 left of a row; of number i)")
    static void promise09NoLampBelow() {
        for (int way : new int[] {-1, 2, 4, 5, LOW, HIGH}) {
            refused("a LAMP by way " + way, x -> x.ray(0, 1, 0, way, 0, 1000));
        }
    }

    @Sentence("(0 above a column, 1 right of a row, 3 left of a row; of number i)")
    static void promise09NumbersOfLamps() {
        // the CUT is three wide and two high
        range("LAMP above", 0, 2, (x, v) -> x.ray(1, 0, 0, 0, v, 1000));
        range("LAMP right", 0, 1, (x, v) -> x.ray(1, 0, 0, 1, v, 1000));
        range("LAMP left", 0, 1, (x, v) -> x.ray(1, 0, 0, 3, v, 1000));
        CutStones x = told("stuff s: 1000 0; cut a" + times(12, " '############") + ";");
        int[] ways = {0, 1, 3};
        int[] firstCells = {11, 143, 132};
        int[] outs = {2, 3, 1};
        for (int k = 0; k < 3; k++) {
            due("the last LAMP", x.ray(0, 0, 0, ways[k], 11, 7), 12);
            due("its first STEP", x.step(0), firstCells[k]);
            outThatWay(x, outs[k], 7);
            due("no LAMP", x.ray(0, 0, 0, ways[k], 12, 7), NONE);
        }
    }

    @Sentence("is followed and remembered: how many STEPS.")
    static void promise09InPlaceOfTheOneAhead() {
        CutStones x = told("stuff s: 1000 0; cut a '###; cut b '#;");
        due("three STEPS", x.ray(0, 0, 0, 3, 0, 5), 3);
        due("one STEP", x.ray(1, 0, 0, 0, 0, 9), 1);
        outThatWay(x, 2, 9);
        due("no second STEP", x.step(1), NONE);
    }

    @Sentence("Cells beyond the CUT are nothing.")
    static void promise09BeyondTheCut() {
        // neither the row above nor the row below goes on where a row of twelve ends
        CutStones x = told("stuff s: 1000 0; cut a '############ '############ '############;");
        for (int row = 0; row < 3; row++) {
            due("to the right", x.ray(0, 0, 0, 3, row, 50), 12);
            due("the last STEP", x.step(11), 12 * row + 11);
            outThatWay(x, 1, 50);
            due("to the left", x.ray(0, 0, 0, 1, row, 50), 12);
            due("the last STEP", x.step(11), 12 * row);
            outThatWay(x, 3, 50);
        }
        due("down", x.ray(0, 0, 0, 0, 5, 50), 3);
        outThatWay(x, 2, 50);
        // up: the half turns light from the left
        CutStones y = told("stuff s: 1000 0; cut a '1#; cut b '#; cut c '# '# '#;");
        due("up", y.ray(0, 0, 0, 3, 0, 50), 1);
        outThatWay(y, 0, 50);
        // a smaller CUT has nothing of a greater one that stood there
        CutStones z = told("stuff s: 1000 0; cut a" + times(12, " '############") + ";");
        for (int i = 0; i < 2; i++) {
            tell(z, "stuff s: 1000 0; cut a '## '##;");
            due("two to the right", z.ray(0, 0, 0, 3, 0, 50), 2);
            outThatWay(z, 1, 50);
            due("two down", z.ray(0, 0, 0, 0, 1, 50), 2);
            outThatWay(z, 2, 50);
        }
    }

    @Sentence("A cell has a SIDE towards a way, if it is full, or the half at that side (a half has two: 1 up and left, 2 up and right, 3 down and right, 4 down and left).")
    static void promise09SidesOfCells() {
        for (int cell = 1; cell < 7; cell++) {
            CutStones x = told("stuff s: 1000 0 eats 0; cut a '" + CELLS.charAt(cell) + ";");
            for (int lamp : new int[] {0, 1, 3}) {
                String call = "a LAMP " + lamp + " at a cell " + CELLS.charAt(cell);
                int steps = x.ray(0, 0, 0, lamp, 0, 1000);
                if (!hasSide(cell, lamp)) {
                    allGlare(x, call, steps, 1000);
                } else {
                    due(call, steps, 1);
                    outThatWay(x, cell <= 4 ? otherSide(cell, lamp) : lamp ^ 2, 1000);
                }
            }
        }
    }

    @Sentence("if the next cell there has a SIDE towards it, it is in that cell; else the face is flat")
    static void promise09TheNextCell() {
        for (int cell = 0; cell < 7; cell++) {
            char sign = CELLS.charAt(cell);
            String stuff = "stuff s: 1000 0 eats 0; cut a ";
            nextCell(told(stuff + "'#" + sign + ";"), 3, 0, 1, cell, 1);
            nextCell(told(stuff + "'" + sign + "#;"), 1, 0, 3, cell, 0);
            nextCell(told(stuff + "'# '" + sign + ";"), 0, 0, 2, cell, 12);
            // the half below turns light from the left up
            nextCell(told(stuff + "'" + sign + " '1;"), 3, 1, 0, cell, 0);
        }
    }

    /** Light from a LAMP goes on that way behind its first STEP, to the cell that is there. */
    private static void nextCell(CutStones x, int lamp, int number, int way, int cell, int place) {
        String call = "on by way " + way + " to a cell " + CELLS.charAt(cell);
        int steps = x.ray(0, 0, 0, lamp, number, 1000);
        boolean on = hasSide(cell, way ^ 2);
        due(call, steps, on ? 2 : 1);
        due(call + ": the second STEP", x.step(1), on ? place : NONE);
        outThatWay(x, on && cell <= 4 ? otherSide(cell, way ^ 2) : way, 1000);
    }

    @Sentence("L from outside comes to a cell over its SIDE: L * FLAT / 1000 goes in, the rest is GLARE.")
    static void promise09GoesInByFlat() {
        int[][] tries = {{1000, 1000, 1000}, {1000, 999, 999}, {1000, 1, 1}, {999, 1, 0}, {1, 999, 0}, {1, 1000, 1}, {3, 500, 1}, {1000, 0, 0}, {100000, 1, 100}};
        for (int[] t : tries) {
            CutStones x = told("stuff s: " + t[1] + " 0; cut a '#;");
            int steps = x.ray(0, 0, 0, 0, 0, t[0]);
            due("GLARE of " + t[0] + " by " + t[1], x.spark(4), t[0] - t[2]);
            due("no STEP", steps == 0 ? 1 : 0, t[2] == 0 ? 1 : 0);
        }
    }

    @Sentence("If it comes from the cell's other side (a half seen from its slant): all is GLARE.")
    static void promise09FromTheSlant() {
        CutStones x = told("stuff s: 1000 1000; cut a '3#; cut b '#1; cut c '4 '#; cut d '.3.#;");
        allGlare(x, "from the left", x.ray(0, 0, 0, 3, 0, 77), 77);
        allGlare(x, "from the right", x.ray(1, 0, 0, 1, 0, 100000), 100000);
        allGlare(x, "from above", x.ray(2, 0, 0, 0, 0, 1), 1);
        allGlare(x, "behind nothing", x.ray(3, 0, 0, 3, 0, 5), 5);
    }

    @Sentence("Cells that are nothing it goes through; if it meets none else, all is GLARE.")
    static void promise09MeetsNone() {
        CutStones x = told("stuff s: 1000 0; cut a '... '.#. '...;");
        for (int lamp : new int[] {0, 1, 3}) {
            allGlare(x, "beside it", x.ray(0, 0, 0, lamp, 0, 100), 100);
            allGlare(x, "beside it", x.ray(0, 0, 0, lamp, 2, 100), 100);
            due("through nothing", x.ray(0, 0, 0, lamp, 1, 100), 1);
            due("the STEP", x.step(0), 13);
            outThatWay(x, lamp ^ 2, 100);
        }
        String none = "...........";
        CutStones y = told("stuff s: 1000 0; cut a '" + none + "#; cut b '#" + none + "; cut c" + times(11, " '.") + " '#;");
        due("eleven from the left", y.ray(0, 0, 0, 3, 0, 10), 1);
        due("its STEP", y.step(0), 11);
        due("eleven from the right", y.ray(1, 0, 0, 1, 0, 10), 1);
        due("its STEP", y.step(0), 0);
        due("eleven from above", y.ray(2, 0, 0, 0, 0, 10), 1);
        due("its STEP", y.step(0), 132);
        allGlare(y, "a column of nothing", y.ray(0, 0, 0, 0, 10, 10), 10);
    }

    @Sentence("in one with a FLAW L * EATS / 1000 is EATEN, the rest goes on.")
    static void promise09Eaten() {
        CutStones x = told("stuff s: 1000 0 eats 333; stuff t: 500 0 eats 100; cut a 'x; cut b 'xxx;");
        x.ray(0, 0, 0, 0, 0, 10);
        sparks(x, 0, 0, 7, 0, 0, 3, 0);
        x.ray(0, 0, 0, 0, 0, 3);
        sparks(x, 0, 0, 3, 0, 0, 0, 0);
        // 1000 less 333, less 222, less 148
        x.ray(1, 0, 0, 3, 0, 1000);
        sparks(x, 0, 297, 0, 0, 0, 703, 0);
        // each time anew: in 500; 50 eaten, 225 down, 22 eaten, 101 up, 10 eaten, 46 down, 4 eaten, 21 up, 2 eaten, 9 down, 1 eaten, 4 up,
        // 2 down, 1 up, 1 down, and one is left
        due("STEPS", x.ray(0, 1, 0, 0, 0, 1000), 300);
        sparks(x, 127, 0, 283, 0, 500, 89, 1);
    }

    @Sentence("L * SLANT / 1000 goes OUT, straight on; the rest is turned and goes towards its other SIDE.")
    static void promise09Slants() {
        for (int slant : new int[] {0, 1, 300, 999, 1000}) {
            for (int half = 1; half <= 4; half++) {
                CutStones x = told("stuff s: 1000 " + slant + "; cut a '" + CELLS.charAt(half) + ";");
                for (int lamp : new int[] {0, 1, 3}) {
                    if (hasSide(half, lamp)) {
                        due("one STEP", x.ray(0, 0, 0, lamp, 0, 1000), 1);
                        int[] want = new int[7];
                        want[lamp ^ 2] = slant;
                        want[otherSide(half, lamp)] = 1000 - slant;
                        sparks(x, want);
                    }
                }
            }
        }
        CutStones y = told("stuff s: 1000 999; cut a '1;");
        y.ray(0, 0, 0, 0, 0, 1);
        sparks(y, 0, 0, 0, 1, 0, 0, 0);
    }

    @Sentence("L * FLAT / 1000 goes OUT, and the rest is thrown back and is in the same cell anew, the other way.")
    static void promise09ThrownBack() {
        // 800 in; 640 right; 160 back: 128 left; 32: 25 right; 7: 5 left; 2: 1 right; 1 is left over
        CutStones x = told("stuff s: 800 0; cut a '##;");
        due("STEPS", x.ray(0, 0, 0, 3, 0, 1000), 300);
        sparks(x, 0, 666, 0, 133, 200, 0, 1);
        int[] cells = {0, 1, 1, 0, 0, 1, 1, 0, 0};
        for (int i = 0; i < cells.length; i++) {
            due("step(" + i + ")", x.step(i), cells[i]);
        }
        // within a half: in 500 down, turned left: 250 out, 250 back to the right, turned up: 125 out, 125 down again ..
        CutStones y = told("stuff s: 500 0; cut a '1;");
        due("STEPS", y.ray(0, 0, 0, 0, 0, 1000), 300);
        sparks(y, 166, 0, 0, 333, 500, 0, 1);
    }

    /** Twelve rows through which light from the left of the first goes to and fro, and down below the first column. */
    private static final String WINDING = "'###########4 '3##########1" + times(5, " '2##########4 '3##########1");

    @Sentence("It ends behind a STEP with L 0")
    static void promise09EndsWithNoLight() {
        CutStones x = told("stuff s: 1000 0 eats 1000; stuff t: 1000 1000; cut a '#; cut b '##x##; cut c '##4; cut d " + WINDING + ";");
        due("all goes out", x.ray(0, 0, 0, 0, 0, 1), 1);
        outThatWay(x, 2, 1);
        due("all is eaten", x.ray(1, 0, 0, 3, 0, 500), 3);
        sparks(x, 0, 0, 0, 0, 0, 500, 0);
        due("the last STEP", x.step(2), 2);
        due("all goes straight on", x.ray(2, 1, 0, 3, 0, 500), 3);
        outThatWay(x, 1, 500);
        due("a long way", x.ray(3, 0, 0, 3, 0, 1000), 144);
        outThatWay(x, 2, 1000);
        due("the last STEP", x.step(143), 132);
        due("not one more", x.step(144), NONE);
    }

    @Sentence("or behind 300 STEPS (what is there then is LEFT")
    static void promise09EndsBehind300Steps() {
        CutStones x = told("stuff s: 999 0; stuff t: 1 0; cut a " + WINDING + "; cut b '############;");
        // one is thrown back at the end, comes back in 144 STEPS, and has gone twelve of a third way
        due("STEPS", x.ray(0, 0, 0, 3, 0, 1000), 300);
        sparks(x, 0, 0, 998, 0, 1, 0, 1);
        due("step(143)", x.step(143), 132);
        due("step(144)", x.step(144), 132);
        due("step(287)", x.step(287), 0);
        due("step(288)", x.step(288), 0);
        due("step(299)", x.step(299), 11);
        due("step(300)", x.step(300), NONE);
        due("STEPS", x.ray(1, 1, 0, 1, 0, 100000), 300);
        sparks(x, 0, 0, 0, 0, 99900, 0, 100);
        due("step(299)", x.step(299), 0);
    }

    @Sentence("L 0 from the beginning: no STEP")
    static void promise09NoStep() {
        CutStones x = told("stuff s: 0 0 eats 0; stuff t: 999 0; cut a 'x;");
        allGlare(x, "nothing goes in", x.ray(0, 0, 0, 0, 0, 100000), 100000);
        allGlare(x, "less than one goes in", x.ray(0, 1, 0, 0, 0, 1), 1);
        due("shine", x.shine(0, 0, 0, 100000, 100000, 100000, 1, 0), 0);
        sights(x, 0, 0, 0, 0, 0, 300000, 0, 0, 300000);
        due("LAMPS of 0", x.shine(0, 1, 0, 0, 0, 0, 1, 0), 0);
        sights(x, 0, 0, 0, 0, 0, 0, 0, 0, 0);
    }

    // ==== 10, 11: what was followed

    @Sentence("The cell (12 * y + x) in which the k-th STEP (from 0 on)")
    static void promise10CellsOfSteps() {
        CutStones x = told("stuff s: 1000 0; cut a '## '##; cut b" + times(11, " '............") + " '...........#;");
        x.ray(0, 0, 0, 3, 1, 1);
        due("step(0)", x.step(0), 12);
        due("step(1)", x.step(1), 13);
        x.ray(1, 0, 0, 0, 11, 1);
        due("the last cell", x.step(0), 143);
    }

    @Sentence("NONE: not so many, none.")
    static void promise10NotSoMany() {
        CutStones x = told("stuff s: 1000 0; cut a '###;");
        due("none", x.step(0), NONE);
        x.ray(0, 0, 0, 3, 0, 1);
        due("step(2)", x.step(2), 2);
        for (int k : new int[] {-1, 3, 299, 300, LOW, HIGH}) {
            due("step(" + k + ")", x.step(k), NONE);
        }
        x.ray(0, 0, 0, 0, 1, 1);
        due("step(0)", x.step(0), 1);
        due("not so many now", x.step(1), NONE);
        tell(x, "stuff s: 1000 0; cut a '###;");
        due("none", x.step(0), NONE);
        CutStones y = told("stuff s: 1 0; cut a '#;");
        y.ray(0, 0, 0, 0, 0, 100000);
        due("step(299)", y.step(299), 0);
        for (int k : new int[] {-1, 300, LOW, HIGH}) {
            due("step(" + k + ")", y.step(k), NONE);
        }
    }

    @Sentence("Of the same: what 0 .. 3 what went OUT that way, 4 GLARE, 5 EATEN, 6 LEFT; NONE: none was followed, no such one.")
    static void promise11NoSuchOne() {
        range("spark", 0, 6, (x, v) -> x.spark(v));
        CutStones x = told("stuff s: 500 0; cut a '#;");
        for (int what = -1; what <= 7; what++) {
            due("none was followed", x.spark(what), NONE);
        }
        x.shine(0, 0, 0, 1000, 0, 0, 1, 0);
        x.bright(0, 0, 0);
        due("a SHINE is none", x.spark(0), NONE);
        x.ray(0, 0, 0, 0, 0, 1000);
        x.shine(0, 0, 0, 7, 0, 0, 1, 0);
        sparks(x, 166, 0, 333, 0, 500, 0, 1);
        x.ray(0, 0, 0, 0, 0, 1000);
        sparks(x, 166, 0, 333, 0, 500, 0, 1);
    }

    // ==== 12, 13, 14: shines

    @Sentence("NONE, and nothing happens: no such ones (above, left, right 0 .. 100000; a, b any).")
    static void promise12NoSuchOnes() {
        range("shine's CUT", 0, 1, (x, v) -> x.shine(v, 0, 0, 10, 10, 10, 1, 0));
        range("shine's STUFF", 0, 1, (x, v) -> x.shine(0, v, 0, 10, 10, 10, 1, 0));
        range("shine's COLOUR", 0, 3, (x, v) -> x.shine(0, 0, v, 10, 10, 10, 1, 0));
        range("above", 0, 100000, (x, v) -> x.shine(0, 0, 0, v, 10, 10, 1, 0));
        range("left", 0, 100000, (x, v) -> x.shine(0, 0, 0, 10, v, 10, 1, 0));
        range("right", 0, 100000, (x, v) -> x.shine(0, 0, 0, 10, 10, v, 1, 0));
        // a HEAD over all takes no number that is too great away
        refused("above under a HEAD", x -> x.shine(0, 0, 0, 100001, 10, 10, LOW, HIGH));
    }

    @Sentence("(told numbers above, left, right: the same for all columns, all rows)")
    static void promise12LampsOfAllColumnsAndRows() {
        CutStones x = told("stuff s: 0 0; cut a '## '## '##; cut b" + times(12, " '############") + ";");
        x.shine(0, 0, 0, 1, 100, 10000, 1, 0);
        sights(x, 0, 0, 0, 0, 0, 30302, 0, 0, 30302);
        x.shine(1, 0, 0, 100000, 100000, 100000, 1, 0);
        sights(x, 0, 0, 0, 0, 0, 3600000, 0, 0, 3600000);
    }

    @Sentence("a HEAD stands above columns a to b (no light from above there; none: a above b). What is under it gives nothing.")
    static void promise12Heads() {
        int[][] heads = {
            // a, b, and which of the three columns have light
            {1, 0, 111}, {2, 1, 111}, {3, 0, 111}, {0, -1, 111}, {HIGH, LOW, 111}, {0, LOW, 111}, {HIGH, 2, 111},
            {0, 0, 11}, {1, 1, 101}, {2, 2, 110}, {0, 1, 1}, {1, 2, 100}, {0, 2, 0},
            {-1, -1, 111}, {3, 3, 111}, {-1, 0, 11}, {2, 3, 110}, {LOW, 0, 11}, {2, HIGH, 110}, {LOW, HIGH, 0},
            {LOW, LOW, 111}, {HIGH, HIGH, 111}, {LOW, -1, 111}, {3, HIGH, 111}, {-5, 12, 0},
        };
        CutStones x = told("stuff s: 500 0; cut a '###;");
        for (int[] head : heads) {
            int lit = head[2] / 100 + head[2] / 10 % 10 + head[2] % 10;
            String call = "a HEAD " + head[0] + " to " + head[1];
            due(call, x.shine(0, 0, 0, 1000, 0, 0, head[0], head[1]), 166 * lit);
            due(call + ": what the LAMPS gave", x.seen(8), 1000 * lit);
            due(call + ": column 0", x.column(0), 166 * (head[2] / 100));
            due(call + ": column 1", x.column(1), 166 * (head[2] / 10 % 10));
            due(call + ": column 2", x.column(2), 166 * (head[2] % 10));
        }
        // it takes no light from beside, and hides nothing that goes OUT up
        CutStones y = told("stuff s: 1000 0; cut a '1;");
        due("under a HEAD", y.shine(0, 0, 0, 1000, 70, 5, 0, 0), 70);
        sights(y, 70, 0, 0, 0, 0, 5, 0, 0, 75);
    }

    @Sentence("NONE: none is, no such one.")
    static void promise13NoSuchOne() {
        range("seen", 0, 8, (x, v) -> x.seen(v));
        CutStones x = told("stuff s: 500 0; cut a '#;");
        for (int what = -1; what <= 9; what++) {
            due("none is", x.seen(what), NONE);
        }
        x.bright(0, 0, 0);
        x.ray(0, 0, 0, 0, 0, 1000);
        due("bright and ray remember none", x.seen(0), NONE);
    }

    @Sentence({"BRIGHT: all that went OUT up; by columns.", "LEAK: all else that went OUT."})
    static void promise13BrightAndLeak() {
        CutStones x = told("stuff s: 1000 300; cut a '1; cut b '.3 '#1;");
        // from above 300 down, 700 left; from the left 30 right, 70 up; from the right all is GLARE
        due("shine", x.shine(0, 0, 0, 1000, 100, 10, 1, 0), 70);
        sights(x, 70, 1030, 0, 0, 0, 10, 0, 0, 1110);
        // row 1 from the left: 300 right through the slant, 700 up: 210 up through the next one's, 490 right
        due("shine", x.shine(1, 0, 0, 0, 1000, 0, 1, 0), 210);
        due("by columns", x.column(0), 0);
        due("by columns", x.column(1), 210);
        due("leak", x.seen(1), 790);
    }

    @Sentence("DARK: columns (those with a cell that is not nothing) whose OUT up ten times is below the greatest one.")
    static void promise13DarkBelowTheGreatest() {
        CutStones x = told("stuff s: 500 0 eats 638; cut a '#x;");
        x.shine(0, 0, 0, 1920, 0, 0, 1, 0);
        due("column(0)", x.column(0), 320);
        due("column(1)", x.column(1), 32);
        due("ten times is the greatest", x.seen(2), 0);
        x.shine(0, 0, 0, 2530, 0, 0, 1, 0);
        due("column(0)", x.column(0), 421);
        due("column(1)", x.column(1), 42);
        due("ten times is below the greatest", x.seen(2), 1);
    }

    @Sentence("DARK: columns (those with a cell that is not nothing) whose OUT up ten times is below the greatest one.")
    static void promise13DarkOnlyWithCells() {
        CutStones x = told("stuff s: 500 0; cut a '#..#; cut b '#13x '....; cut c '.# '#. '..; cut d '############;");
        x.shine(0, 0, 0, 1000, 0, 0, 1, 0);
        due("columns of nothing", x.seen(2), 0);
        CutStones y = told("stuff s: 500 0; cut a '.##.; cut b '.#.#.;");
        y.shine(0, 0, 0, 1000, 0, 0, 1, 0);
        due("columns of nothing at both ends", y.seen(2), 0);
        y.shine(1, 0, 0, 1000, 0, 0, 0, 1);
        due("columns of nothing at both ends", y.seen(2), 1);
        x.shine(0, 0, 0, 1000, 0, 0, 0, 0);
        due("one under a HEAD", x.seen(2), 1);
        x.shine(0, 0, 0, 1000, 0, 0, 0, 3);
        due("all alike", x.seen(2), 0);
        x.shine(2, 0, 0, 1000, 0, 0, 0, 0);
        due("a cell in any row", x.seen(2), 1);
        x.shine(3, 0, 0, 1000, 0, 0, 0, 10);
        due("eleven", x.seen(2), 11);
        due("one column", told("stuff s: 1 1; cut a '#;").shine(0, 0, 0, 1000, 0, 0, 1, 0), 0);
    }

    @Sentence("UNEVEN: the sum over columns i of the left half of |OUT up of i less that of the one as far from the right|.")
    static void promise13UnevenByTheLeftHalf() {
        int[][] tries = {
            // wide, HEAD a, b, in how many pairs one has light
            {1, 1, 0, 0}, {1, 0, 0, 0}, {2, 1, 0, 0}, {2, 0, 0, 1}, {2, 1, 1, 1}, {2, 0, 1, 0},
            {3, 0, 0, 1}, {3, 1, 1, 0}, {3, 2, 2, 1}, {3, 0, 1, 1}, {4, 0, 0, 1}, {4, 0, 1, 2}, {4, 1, 2, 0}, {4, 0, 2, 1}, {4, 2, 3, 2},
            {11, 0, 4, 5}, {11, 0, 5, 5}, {11, 5, 10, 5}, {12, 0, 5, 6}, {12, 0, 6, 5}, {12, 6, 11, 6}, {12, 5, 6, 0},
        };
        for (int[] t : tries) {
            CutStones x = told("stuff s: 500 0; cut a '" + times(t[0], "#") + ";");
            x.shine(0, 0, 0, 1000, 0, 0, t[1], t[2]);
            due("uneven of " + t[0] + " under " + t[1] + " to " + t[2], x.seen(3), 166 * t[3]);
        }
    }

    @Sentence("FLAWS: how many STEPS were in cells with a FLAW.")
    static void promise13FlawsSeenManyTimes() {
        CutStones x = told("stuff s: 500 0 eats 0; stuff t: 1000 0; cut a 'x; cut b '#x#; cut c '###;");
        x.shine(0, 0, 0, 1000, 0, 0, 1, 0);
        due("300 from above", x.seen(4), 300);
        x.shine(0, 0, 0, 1000, 1000, 1000, 1, 0);
        due("300 of each", x.seen(4), 900);
        x.shine(1, 1, 0, 1000, 1000, 1000, 1, 0);
        due("one of each", x.seen(4), 3);
        x.shine(1, 1, 0, 1000, 0, 0, 1, 1);
        due("under a HEAD", x.seen(4), 0);
        x.shine(2, 0, 0, 1000, 1000, 1000, 1, 0);
        due("no FLAW", x.seen(4), 0);
    }

    @Sentence("so that what came in is what came out, was eaten or is left")
    static void promise13NothingIsLost() {
        CutStones x = told("stuff s: 777 333, 1 999, 999 1 eats 77; cut a '.2#1. '2#x#1 '#####  '4#x#3 '.4#3.; cut b " + WINDING + ";");
        for (int colour = 0; colour < 4; colour++) {
            for (int cut = 0; cut < 2; cut++) {
                x.shine(cut, 0, colour, 100000, 99999, 12345, 1, 1);
                due("all of it", x.seen(0) + x.seen(1) + x.seen(5) + x.seen(6) + x.seen(7), x.seen(8));
                x.ray(cut, 0, colour, 0, 2, 98765);
                due("of one", x.spark(0) + x.spark(1) + x.spark(2) + x.spark(3) + x.spark(4) + x.spark(5) + x.spark(6), 98765);
            }
        }
    }

    @Sentence("What went OUT up by a column of it; NONE: none is remembered, no such column.")
    static void promise14NoSuchColumn() {
        range("column", 0, 2, (x, v) -> x.column(v));
        CutStones x = told("stuff s: 500 0; cut a '############; cut b '#;");
        due("none is remembered", x.column(0), NONE);
        x.shine(0, 0, 0, 1000, 0, 0, 1, 0);
        due("column(11)", x.column(11), 166);
        due("column(12)", x.column(12), NONE);
        due("column(-1)", x.column(-1), NONE);
        x.shine(1, 0, 0, 1000, 0, 0, 1, 0);
        due("column(0)", x.column(0), 166);
        due("the CUT has one", x.column(1), NONE);
        x.bright(0, 0, 0);
        due("the SHINE that is remembered has one", x.column(1), NONE);
    }

    // ==== 15, 16: grades and prices

    private static CutStones lit(String tells) {
        CutStones x = told("stuff s: 500 0; cut a '#; " + tells);
        x.shine(0, 0, 0, 1000, 0, 0, 1, 0);
        return x;
    }

    private static void holds(String cond, boolean want) {
        CutStones x = lit("grade g if " + cond + "; price p 1 if " + cond + ";");
        due("grade of " + cond, x.grade(), want ? 0 : -2);
        due("price of " + cond, x.price(), want ? 1 : 0);
    }

    private static void worth(String e, int want) {
        due("price " + e, lit("price p " + e + "; price q 5;").price(), want);
    }

    @Sentence("The GRADE by the SHINE that is remembered; -2: none; NONE: none is remembered.")
    static void promise15NoneAndNotOne() {
        CutStones x = told("stuff s: 500 0; cut a '#; grade g if bright < 166;");
        due("none is remembered", x.grade(), NONE);
        x.shine(0, 0, 0, 1000, 0, 0, 1, 0);
        due("none holds", x.grade(), -2);
        x.shine(0, 0, 0, 900, 0, 0, 1, 0);
        due("one holds", x.grade(), 0);
        x.bright(0, 0, 0);
        x.ray(0, 0, 0, 0, 0, 1000);
        due("it is remembered", x.grade(), 0);
        due("a refused SHINE", x.shine(0, 0, 4, 1000, 0, 0, 1, 0), NONE);
        due("it is remembered", x.grade(), 0);
        due("no GRADE", lit("").grade(), -2);
    }

    @Sentence("GRADE: the first GRADE that holds")
    static void promise15TheFirstThatHolds() {
        StringBuilder tells = new StringBuilder();
        for (int i = 0; i < 8; i++) {
            tells.append("grade g").append((char) ('a' + i)).append(" if bright < ").append(100 * i).append(';');
        }
        CutStones x = lit(tells.toString());
        due("166", x.grade(), 2);
        due("0", x.shine(0, 0, 0, 0, 0, 0, 1, 0), 0);
        due("the first", x.grade(), 1);
        x.shine(0, 0, 0, 4190, 0, 0, 1, 0);
        due("699", x.seen(0), 699);
        due("the last", x.grade(), 7);
        x.shine(0, 0, 0, 4200, 0, 0, 1, 0);
        due("700", x.seen(0), 700);
        due("none", x.grade(), -2);
    }

    @Sentence("The PRICE by it; NONE: none is remembered.")
    static void promise16None() {
        CutStones x = told("stuff s: 500 0; cut a '#; price p bright;");
        due("none is remembered", x.price(), NONE);
        x.bright(0, 0, 0);
        due("none is remembered", x.price(), NONE);
        x.shine(0, 0, 0, 1000, 0, 0, 1, 0);
        due("price", x.price(), 166);
    }

    @Sentence("PRICE: the E of the first PRICE that holds (or has no COND), held to 0 .. 1000000, else 0")
    static void promise16TheFirstThatHolds() {
        StringBuilder tells = new StringBuilder();
        for (int i = 0; i < 7; i++) {
            tells.append("price p").append((char) ('a' + i)).append(" ").append(i + 1).append(" if bright < ").append(100 * i).append(';');
        }
        due("the third", lit(tells.toString()).price(), 3);
        CutStones x = lit(tells + "price ph 8 + bright;");
        x.shine(0, 0, 0, 4200, 0, 0, 1, 0);
        due("the eighth", x.price(), 708);
        due("none holds: 0", lit("price p 5 if 2 < 1;").price(), 0);
        due("none of eight holds: 0", lit(tells.toString().replace("bright", "9999") + "price ph 8 if 2 < 1;").price(), 0);
        due("no PRICE: 0", lit("").price(), 0);
        due("no COND", lit("price p 5; price q 6 if 1 < 2;").price(), 5);
        due("its own COND", lit("price p 5 if 2 < 1; price q 6 if 1 < 2;").price(), 6);
    }

    @Sentence("held to 0 .. 1000000, else 0")
    static void promise16HeldToItsRange() {
        worth("0", 0);
        worth("1", 1);
        worth("0 - 1", 0);
        worth("0 - 9999", 0);
        worth("1000 * 1000 - 1", 999999);
        worth("1000 * 1000", 1000000);
        worth("1000 * 1000 + 1", 1000000);
        worth("2048 * 1024 * 1024 - 1", 1000000);
        worth("2048 * 1024 * 1024", 0);
    }

    @Sentence("32 bits that wrap, / rounded towards 0")
    static void promise16ThirtyTwoBits() {
        worth("2048 * 1024 * 1024 * 2 + 7", 7);
        worth("9999 * 9999 * 9999 / 1000", Math.max(0, Math.min(1000000, 9999 * 9999 * 9999 / 1000)));
        worth("0 - 9999 * 9999 * 9999 / 1000", Math.max(0, Math.min(1000000, -(9999 * 9999 * 9999 / 1000))));
        // the greatest and one more is the least, the least and one less is the greatest
        holds("2048 * 1024 * 1024 - 1 + 1 < 0", true);
        holds("0 < 2048 * 1024 * 1024 - 1", true);
        holds("0 - 2048 * 1024 * 1024 == 2048 * 1024 * 1024", true);
        holds("2048 * 1024 * 1024 / (0 - 1) == 2048 * 1024 * 1024", true);
        holds("2048 * 1024 * 1024 < 2048 * 1024 * 1024 - 1", true);
        worth("7 / 2", 3);
        worth("0 - (0 - 7) / 2", 3);
        worth("0 - 7 / (0 - 2)", 3);
        worth("(0 - 7) / (0 - 2)", 3);
        worth("1 / 2", 0);
        worth("1 + (0 - 1) / 2", 1);
    }

    @Sentence("LIT: 'not' LIT | E ('==' | '!=' | '<' | '<=') E.")
    static void promise15Comparisons() {
        String[] signs = {"==", "!=", "<", "<="};
        // of one less, the same, one more
        boolean[][] want = {{false, true, false}, {true, false, true}, {true, false, false}, {true, true, false}};
        for (int sign = 0; sign < 4; sign++) {
            for (int left = 0; left < 3; left++) {
                holds(left + " " + signs[sign] + " 1", want[sign][left]);
                holds("not " + left + " " + signs[sign] + " 1", !want[sign][left]);
                holds("not not " + left + " " + signs[sign] + " 1", want[sign][left]);
                holds(left + " - 1 " + signs[sign] + " 0", want[sign][left]);
                holds("bright - 1 + " + left + " " + signs[sign] + " bright", want[sign][left]);
            }
        }
    }

    @Sentence({"COND: ALL {'or' ALL}.", "ALL: LIT {'and' LIT}."})
    static void promise15AndAheadOfOr() {
        String[] lits = {"2 < 1", "1 < 2", "not 1 < 2", "not 2 < 1"};
        for (int i = 0; i < 64; i++) {
            String a = lits[i & 3];
            String b = lits[i >> 2 & 3];
            String c = lits[i >> 4];
            boolean isA = (i & 1) == 1;
            boolean isB = (i >> 2 & 1) == 1;
            boolean isC = (i >> 4 & 1) == 1;
            holds(a, isA);
            holds(a + " and " + b, isA && isB);
            holds(a + " or " + b, isA || isB);
            holds(a + " and " + b + " and " + c, isA && isB && isC);
            holds(a + " or " + b + " or " + c, isA || isB || isC);
            holds(a + " and " + b + " or " + c, isA && isB || isC);
            holds(a + " or " + b + " and " + c, isA || isB && isC);
        }
    }

    @Sentence({"E: PART {('+' | '-') PART}.", "PART: UNIT {('*' | '/') UNIT}.", "UNIT: INT | VAR | '(' E ')'."})
    static void promise16PartsAheadOfSums() {
        worth("9 - 3 - 2", 4);
        worth("9 - (3 - 2)", 8);
        worth("9 - 3 + 2", 8);
        worth("9 + 3 * 2", 15);
        worth("(9 + 3) * 2", 24);
        worth("100 / 5 / 2", 10);
        worth("100 / (5 / 2)", 50);
        worth("7 / 2 * 2", 6);
        worth("7 * 2 / 2", 7);
        worth("20 - 7 / 2 * 2 - 1", 13);
        worth("2 * 3 + 4 * 5 - 6 / 2", 23);
    }

    @Sentence({"GRADE: the first GRADE that holds", "a 7th ( within one another"})
    static void promise16DeepestRuleBehindAllOthers() {
        String deep = "1";
        int value = 1;
        for (int i = 0; i < 6; i++) {
            deep = "1 + 2 * (" + deep + ")";
            value = 1 + 2 * value;
        }
        StringBuilder rules = new StringBuilder();
        for (int i = 0; i < 7; i++) {
            char letter = (char) ('a' + i);
            rules.append("grade g").append(letter).append(" if 2 < 1; price p").append(letter).append(" 5 if 2 < 1;");
        }
        CutStones x = lit(rules + "grade gh if " + deep + " == " + deep + " and not " + deep + " < 1; price ph " + deep + " if 1 < " + deep + ";");
        due("the eighth GRADE", x.grade(), 7);
        due("the eighth PRICE", x.price(), value);
    }

    @Sentence("a LIT with a division by 0 does not hold, its not does")
    static void promise15LitWithADivisionByZero() {
        for (String sign : new String[] {"==", "!=", "<", "<="}) {
            for (String zero : new String[] {"0", "(1 - 1)", "(wide - wide)", "flaws"}) {
                for (String lit : new String[] {"1 / " + zero + " " + sign + " 0", "0 " + sign + " 1 / " + zero, "0 / " + zero + " " + sign + " 0",
                    "0 * (1 / " + zero + ") " + sign + " 1 - 1", "1 / " + zero + " " + sign + " 1 / " + zero}) {
                    holds(lit, false);
                    holds("not " + lit, true);
                    holds("not not " + lit, false);
                    holds("not not not " + lit, true);
                }
            }
        }
        // the others by themselves
        holds("1 / 0 == 0 or 1 < 2", true);
        holds("1 < 2 or 1 / 0 == 0", true);
        holds("1 < 2 and 1 / 0 == 0", false);
        holds("not 1 / 0 == 0 and 1 < 2", true);
        holds("not 1 / 0 == 0 and 2 < 1", false);
        holds("1 / 0 == 0 and 1 < 2 or not 1 / 0 != 0", true);
        holds("0 / 1 == 0", true);
    }

    @Sentence("an E with one is 0 as a whole")
    static void promise16EWithADivisionByZero() {
        worth("1 / 0", 0);
        worth("0 / 0", 0);
        worth("7 + 1 / 0", 0);
        worth("1 / 0 + 7", 0);
        worth("7 - 1 / 0 * 0", 0);
        worth("7 + (1 / 0)", 0);
        worth("7 + (2 + (1 / (3 - 3)))", 0);
        worth("7 / (wide - 1)", 0);
        worth("7 / (wide - 2) + 8", 1);
        // it is that PRICE's E all the same; a COND's division by 0 does not touch the E
        due("the first one", lit("price p 1 / 0 if 1 < 2; price q 3;").price(), 0);
        due("its COND does not hold", lit("price p 8 if 1 / 0 == 0; price q 3;").price(), 3);
        due("its COND holds", lit("price p 8 if not 1 / 0 == 0; price q 3;").price(), 8);
        due("one of them holds", lit("price p 8 if 1 < 2 or 1 / 0 == 0; price q 3;").price(), 8);
    }

    @Sentence("an E with one is 0 as a whole")
    static void promise16ADivisionByZeroIsNotRemembered() {
        CutStones x = told("stuff s: 1000 0; cut a 'x#; grade g if 8 / flaws == 8; price p 8 / flaws;");
        for (int i = 0; i < 3; i++) {
            x.shine(0, 0, 0, 1000, 0, 0, 0, 0);
            due("no STEP in a FLAW", x.price(), 0);
            due("grade", x.grade(), -2);
            x.shine(0, 0, 0, 1000, 0, 0, 1, 1);
            due("one STEP in a FLAW", x.price(), 8);
            due("grade", x.grade(), 0);
        }
        CutStones y = told("stuff s: 1000 0; cut a 'x#; price p 8 / flaws;");
        for (int i = 0; i < 3; i++) {
            y.shine(0, 0, 0, 1000, 0, 0, 0, 0);
            due("no STEP in a FLAW", y.price(), 0);
            y.shine(0, 0, 0, 1000, 0, 0, 1, 1);
            due("one STEP in a FLAW", y.price(), 8);
        }
        CutStones z = lit("price p 1 / 0; grade g if 1 < 2;");
        due("price", z.price(), 0);
        due("the PRICE's E does not touch the GRADE's COND", z.grade(), 0);
    }

    @Sentence("VARS by a SHINE: bright, leak, dark, weight, uneven, flaws, wide, colour.")
    static void promise16Vars() {
        CutStones[] all = new CutStones[8];
        String[] vars = {"bright", "leak", "dark", "weight", "uneven", "flaws", "wide", "colour"};
        for (int i = 0; i < 8; i++) {
            all[i] = told("stuff s: 500 0 eats 0; cut a '#x1; price p " + vars[i] + ";");
            all[i].shine(0, 0, 3, 1000, 10, 10, 0, 0);
        }
        int[] sights = {0, 1, 2, -1, 3, 4, -1, -1};
        for (int i = 0; i < 8; i++) {
            if (sights[i] >= 0) {
                due(vars[i], all[i].price(), all[i].seen(sights[i]));
            }
        }
        due("bright is some", all[0].price() > 0 ? 1 : 0, 1);
        due("leak is some", all[1].price() > 0 ? 1 : 0, 1);
        due("dark is some", all[2].price() > 0 ? 1 : 0, 1);
        due("uneven is some", all[4].price() > 0 ? 1 : 0, 1);
        due("flaws are some", all[5].price() > 0 ? 1 : 0, 1);
        due("weight", all[3].price(), 5);
        due("wide", all[6].price(), 3);
        due("colour", all[7].price(), 3);
    }
}
