import java.util.Arrays;

/**
 * A house of cut stones. A text tells stuffs, cuts, roughs, grades and prices; light is followed
 * through the cuts, cuts are laid into roughs, and tests bar stuffs. The document has the terms.
 */
public final class CutStones {
    public static final int NONE = -1;

    /** What a call answers that asked for the best one, or the first one, where there is none. */
    private static final int NOT_FOUND = -2;

    private static final int MOST_BYTES = 2000;
    private static final int FED_BYTES = 20;
    private static final int MOST_TOKENS = 500;
    private static final int MOST_OPEN = 6;
    private static final int MOST_STUFFS = 4;
    private static final int MOST_CUTS = 6;
    private static final int MOST_ROUGHS = 4;
    private static final int MOST_GRADES = 8;
    private static final int MOST_PRICES = 8;
    private static final int MOST_NAMES = 30;
    private static final int MOST_LETTERS = 8;
    private static final int MOST_DIGITS = 4;
    private static final int SPAN = 12;
    private static final int COLOURS = 4;
    private static final int WHOLE = 1000;
    private static final int USUAL_EATS = 200;
    private static final int MOST_STEPS = 300;
    private static final int MOST_LIGHT = 100000;
    private static final int MOST_PRICE = 1000000;
    private static final int MOST_TESTS = 60;

    private static final int SYNTAX = 1;
    private static final int ROOM = 2;
    private static final int TWICE = 3;
    private static final int WRONG = 5;

    /** Kinds of tokens. Those of signs and words stand in the order of SIGNS and WORDS. */
    private static final int END = 0;
    private static final int BAD = 1;
    private static final int NAME = 2;
    private static final int INT = 3;
    private static final int ROW = 4;
    private static final int FIRST_SIGN = 5;
    private static final int SEMICOLON = 5;
    private static final int COLON = 6;
    private static final int COMMA = 7;
    private static final int PLUS = 8;
    private static final int MINUS = 9;
    private static final int TIMES = 10;
    private static final int OVER = 11;
    private static final int OPEN = 12;
    private static final int CLOSE = 13;
    private static final int BELOW = 14;
    private static final int UP_TO = 15;
    private static final int SAME = 16;
    private static final int UNLIKE = 17;
    private static final int FIRST_WORD = 18;
    private static final int STUFF = 18;
    private static final int CUT = 19;
    private static final int ROUGH = 20;
    private static final int GRADE = 21;
    private static final int PRICE = 22;
    private static final int EATS = 23;
    private static final int IF = 24;
    private static final int OR = 25;
    private static final int AND = 26;
    private static final int NOT = 27;
    private static final int FIRST_VAR = 28;
    private static final int LAST_VAR = 35;

    private static final String SIGNS = ";:,+-*/()<";

    /** Eight places for each word; the VARS that a SHINE sums up come in the order of its sums. */
    private static final String WORDS =
            "stuff   cut     rough   grade   price   eats    if      or      and     not     bright  leak    dark    uneven  flaws   weight  wide    colour  ";

    /** The signs of a ROW, each at the number of its cell. */
    private static final String CELLS = ".1234#x";
    private static final int NOTHING = 0;
    private static final int LAST_HALF = 4;
    private static final int FULL = 5;
    private static final int FLAW = 6;

    private static final int UP = 0;
    private static final int RIGHT = 1;
    private static final int LEFT = 3;
    /** The other way of a way, by exclusive or. */
    private static final int TURN_ROUND = 2;
    private static final int[] WAY_X = {0, 1, 0, -1};
    private static final int[] WAY_Y = {-1, 0, 1, 0};

    /** By cells: the ways to which a cell has a SIDE, as bits. */
    private static final int[] SIDES = {0, 9, 3, 6, 12, 15, 15};
    /** By cells: the sum of a half's two ways; less the one it is the other. */
    private static final int[] SIDE_SUMS = {0, 3, 1, 3, 5, 0, 0};
    /** By cells: what a cell is when left and right are changed. */
    private static final int[] MIRRORED = {0, 2, 1, 4, 3, 5, 6};
    /** By cells: what a cell weighs. */
    private static final int[] WEIGHTS = {0, 1, 1, 1, 1, 2, 2};

    /** Places in what a LIGHT sums up, behind the four ways. */
    private static final int LOST_AS_GLARE = 4;
    private static final int LOST_TO_FLAWS = 5;
    private static final int LOST_AS_LEFT = 6;

    /** Places in what a SHINE sums up. */
    private static final int SUM_BRIGHT = 0;
    private static final int SUM_LEAK = 1;
    private static final int SUM_DARK = 2;
    private static final int SUM_UNEVEN = 3;
    private static final int SUM_FLAWS = 4;
    private static final int SUM_GLARE = 5;
    private static final int SUM_EATEN = 6;
    private static final int SUM_LEFT = 7;
    private static final int SUM_GIVEN = 8;
    private static final int SUMS = 9;

    /** VARS that are no sums of a SHINE, counted from FIRST_VAR on. */
    private static final int VAR_WEIGHT = 5;
    private static final int VAR_WIDE = 6;

    private final Tape tape = new Tape();
    private final Reader reader = new Reader();
    private House house = new House();
    private final Light alone = new Light();
    private boolean followed = false;
    private final Shine shown = new Shine();
    private boolean shone = false;
    /** For SHINES that are only reckoned with and not remembered: WHOLE above each column alone. */
    private final Shine trial = new Shine();
    private final Reckoner reckoner = new Reckoner();
    /** By CUTS: the PRICE in the stuff that is asked for. */
    private final int[] prices = new int[MOST_CUTS];
    /** SAW, CUT, x, y, and CUT, x, y of the right one; NONE where there is none. */
    private final int[] lying = {NONE, NONE, NONE, NONE, NONE, NONE, NONE};
    private final Tests tests = new Tests();
    /** What BRIGHT was found to be by CUT, STUFF, COLOUR, since following light is dear; NONE: not yet. */
    private final int[] brights = new int[MOST_CUTS * MOST_STUFFS * COLOURS];

    public CutStones() {
        trial.setLamps(WHOLE, 0, 0);
        Arrays.fill(brights, NONE);
    }

    public int feed(int a, int b, int c, int d, int e) {
        if (tape.length + FED_BYTES > MOST_BYTES) {
            return NONE;
        }
        tape.append(a);
        tape.append(b);
        tape.append(c);
        tape.append(d);
        tape.append(e);
        return tape.length;
    }

    public int back(int n) {
        if (n < 0 || n > tape.length) {
            return NONE;
        }
        tape.length -= n;
        return tape.length;
    }

    public int read() {
        tape.scan();
        reader.readText(tape);
        tape.length = 0;
        if (reader.fault == 0) {
            house = reader.exchange(house);
            forgetAll();
        }
        return reader.fault;
    }

    public int place() {
        return reader.faultPlace;
    }

    public int weight(boolean rough, int k) {
        return isDrawing(rough, k) ? drawing(rough, k).heft : NONE;
    }

    public int cell(boolean rough, int k, int x, int y) {
        if (!isDrawing(rough, k)) {
            return NONE;
        }
        Drawing drawing = drawing(rough, k);
        return drawing.hasPlace(x, y) ? drawing.cellAt(x, y) : NONE;
    }

    public int even(int cut) {
        if (!isCut(cut)) {
            return NONE;
        }
        return house.cuts[cut].isMirrored() ? 1 : 0;
    }

    public int ray(int cut, int stuff, int colour, int way, int i, int l) {
        if (!isCut(cut) || !isStuff(stuff) || !isColour(colour)) {
            return NONE;
        }
        Drawing drawing = house.cuts[cut];
        if (!drawing.hasLamp(way, i) || l < 1 || l > MOST_LIGHT) {
            return NONE;
        }
        alone.begin(house.stuffs[stuff], colour);
        alone.follow(drawing, way, i, l);
        followed = true;
        return alone.steps;
    }

    public int step(int k) {
        return followed && k >= 0 && k < alone.steps ? alone.trace[k] : NONE;
    }

    public int spark(int what) {
        return followed && what >= 0 && what <= LOST_AS_LEFT ? alone.sums[what] : NONE;
    }

    public int shine(int cut, int stuff, int colour, int above, int left, int right, int a, int b) {
        if (!isCut(cut) || !isStuff(stuff) || !isColour(colour)) {
            return NONE;
        }
        if (!isLamp(above) || !isLamp(left) || !isLamp(right)) {
            return NONE;
        }
        shown.setLamps(above, left, right);
        shown.setHead(a, b);
        shown.lightUp(house.cuts[cut], house.stuffs[stuff], colour);
        shone = true;
        return shown.sums[SUM_BRIGHT];
    }

    public int seen(int what) {
        return shone && what >= 0 && what < SUMS ? shown.sums[what] : NONE;
    }

    public int column(int x) {
        return shone && x >= 0 && x < shown.wide ? shown.light.upward[x] : NONE;
    }

    public int grade() {
        return shone ? house.gradeBy(shown, reckoner) : NONE;
    }

    public int price() {
        return shone ? house.priceBy(shown, reckoner) : NONE;
    }

    public int fits(int cut, int rough, int x, int y) {
        if (!isCut(cut) || !isRough(rough) || x < 0 || x >= SPAN || y < 0 || y >= SPAN) {
            return NONE;
        }
        return house.cuts[cut].liesIn(house.roughs[rough], x, y) ? 1 : 0;
    }

    public int places(int cut, int rough) {
        if (!isCut(cut) || !isRough(rough)) {
            return NONE;
        }
        int found = 0;
        for (int y = 0; y < SPAN; y++) {
            for (int x = 0; x < SPAN; x++) {
                if (house.cuts[cut].liesIn(house.roughs[rough], x, y)) {
                    found++;
                }
            }
        }
        return found;
    }

    public int dearest(int cuts, int rough, int stuff) {
        if (!areCuts(cuts) || !isRough(rough) || !isStuff(stuff)) {
            return NONE;
        }
        findPrices(cuts, stuff);
        Arrays.fill(lying, NONE);
        Drawing ground = house.roughs[rough];
        int best = dearestWithin(cuts, ground, 0, ground.wide);
        if (best == NONE) {
            return NOT_FOUND;
        }
        lay(1, best, firstPlace(house.cuts[best], ground, 0, ground.wide));
        return prices[best];
    }

    public int two(int cuts, int rough, int stuff) {
        if (!areCuts(cuts) || !isRough(rough) || !isStuff(stuff)) {
            return NONE;
        }
        findPrices(cuts, stuff);
        Arrays.fill(lying, NONE);
        Drawing ground = house.roughs[rough];
        int greatest = NOT_FOUND;
        for (int saw = 1; saw < ground.wide; saw++) {
            int onLeft = dearestWithin(cuts, ground, 0, saw);
            int onRight = dearestWithin(cuts, ground, saw, ground.wide);
            if (onLeft != NONE && onRight != NONE && prices[onLeft] + prices[onRight] > greatest) {
                greatest = prices[onLeft] + prices[onRight];
                lying[0] = saw;
                lay(1, onLeft, firstPlace(house.cuts[onLeft], ground, 0, saw));
                lay(4, onRight, firstPlace(house.cuts[onRight], ground, saw, ground.wide));
            }
        }
        return greatest;
    }

    public int laid(int what) {
        return what >= 0 && what < lying.length ? lying[what] : NONE;
    }

    public int test(int cut, int colour, int bright) {
        if (!isCut(cut) || !isColour(colour) || bright < 0 || bright > MOST_LIGHT) {
            return NONE;
        }
        return tests.addTest(cut, colour, bright);
    }

    public int annul(int test) {
        return tests.addVoid(test);
    }

    public int bright(int cut, int stuff, int colour) {
        return isCut(cut) && isStuff(stuff) && isColour(colour) ? brightOf(cut, stuff, colour) : NONE;
    }

    public int barred(int stuff, int n) {
        return isStuff(stuff) && tests.hasFirst(n) ? barringTest(stuff, n) : NONE;
    }

    public int left(int n) {
        return tests.hasFirst(n) ? openStuffs(n) : NONE;
    }

    public int next(int n) {
        if (!tests.hasFirst(n)) {
            return NONE;
        }
        int open = openStuffs(n);
        if (Integer.bitCount(open) < 2) {
            return NOT_FOUND;
        }
        int best = NOT_FOUND;
        int furthest = NONE;
        for (int i = 0; i < house.cutCount * COLOURS; i++) {
            int apart = spread(i / COLOURS, i % COLOURS, open);
            if (apart > furthest) {
                furthest = apart;
                best = i;
            }
        }
        return best;
    }

    public int count(int what) {
        switch (what) {
            case 0: return house.stuffCount;
            case 1: return house.cutCount;
            case 2: return house.roughCount;
            case 3: return house.gradeCount;
            case 4: return house.priceCount;
            case 5: return tests.size;
            case 6: return tape.length;
            default: return measure(what);
        }
    }

    /** Columns (10, 30) and rows (20, 40) of a CUT or, from 30 on, of a ROUGH. */
    private int measure(int what) {
        if (what < 10 || what >= 50) {
            return NONE;
        }
        boolean rough = what >= 30;
        int k = what % 10;
        if (!isDrawing(rough, k)) {
            return NONE;
        }
        boolean columns = what / 10 % 2 == 1;
        return columns ? drawing(rough, k).wide : drawing(rough, k).high;
    }

    private void forgetAll() {
        followed = false;
        shone = false;
        tests.size = 0;
        Arrays.fill(lying, NONE);
        Arrays.fill(brights, NONE);
    }

    private boolean isStuff(int k) {
        return k >= 0 && k < house.stuffCount;
    }

    private boolean isCut(int k) {
        return k >= 0 && k < house.cutCount;
    }

    private boolean isRough(int k) {
        return k >= 0 && k < house.roughCount;
    }

    private boolean isDrawing(boolean rough, int k) {
        return rough ? isRough(k) : isCut(k);
    }

    /** Only for one that is there. */
    private Drawing drawing(boolean rough, int k) {
        return rough ? house.roughs[k] : house.cuts[k];
    }

    private boolean areCuts(int cuts) {
        return cuts >= 0 && cuts >> house.cutCount == 0;
    }

    private static boolean isColour(int colour) {
        return colour >= 0 && colour < COLOURS;
    }

    private static boolean isLamp(int l) {
        return l >= 0 && l <= MOST_LIGHT;
    }

    private static boolean isTold(int bits, int k) {
        return (bits >> k & 1) == 1;
    }

    private void findPrices(int cuts, int stuff) {
        for (int cut = 0; cut < house.cutCount; cut++) {
            if (isTold(cuts, cut)) {
                trial.lightUp(house.cuts[cut], house.stuffs[stuff], 0);
                prices[cut] = house.priceBy(trial, reckoner);
            }
        }
    }

    /**
     * The first of the dearest CUTS that can lie in the columns from .. to - 1 of a ROUGH; NONE: none.
     * THE TWO are the dearest ones of their sides, as neither's PRICE depends on the other.
     */
    private int dearestWithin(int cuts, Drawing ground, int from, int to) {
        int best = NONE;
        for (int cut = 0; cut < house.cutCount; cut++) {
            boolean dearer = isTold(cuts, cut) && (best == NONE || prices[cut] > prices[best]);
            if (dearer && firstPlace(house.cuts[cut], ground, from, to) != NONE) {
                best = cut;
            }
        }
        return best;
    }

    /** Where a CUT FITS first in the columns from .. to - 1, as SPAN * y + x; NONE: nowhere. */
    private static int firstPlace(Drawing cut, Drawing ground, int from, int to) {
        for (int y = 0; y < SPAN; y++) {
            for (int x = 0; x < SPAN; x++) {
                boolean within = x + cut.firstColumn >= from && x + cut.lastColumn < to;
                if (within && cut.liesIn(ground, x, y)) {
                    return SPAN * y + x;
                }
            }
        }
        return NONE;
    }

    /** Only for at 1 and 4. */
    private void lay(int at, int cut, int place) {
        lying[at] = cut;
        lying[at + 1] = place % SPAN;
        lying[at + 2] = place / SPAN;
    }

    private int brightOf(int cut, int stuff, int colour) {
        int at = (cut * MOST_STUFFS + stuff) * COLOURS + colour;
        if (brights[at] == NONE) {
            trial.lightUp(house.cuts[cut], house.stuffs[stuff], colour);
            brights[at] = trial.sums[SUM_BRIGHT];
        }
        return brights[at];
    }

    private int barringTest(int stuff, int n) {
        for (int i = 0; i < n; i++) {
            if (tests.stands(i, n)) {
                int own = brightOf(tests.cuts[i], stuff, tests.colours[i]);
                if (Math.abs(tests.seenBright[i] - own) > tests.seenBright[i] / 20 + 5) {
                    return i;
                }
            }
        }
        return NOT_FOUND;
    }

    /** The STUFFS that are not BARRED, as bits. */
    private int openStuffs(int n) {
        int open = 0;
        for (int stuff = 0; stuff < house.stuffCount; stuff++) {
            if (barringTest(stuff, n) == NOT_FOUND) {
                open |= 1 << stuff;
            }
        }
        return open;
    }

    /** How far apart the BRIGHT of the open STUFFS lie; all of them are from 0 to WHOLE a column. */
    private int spread(int cut, int colour, int open) {
        int greatest = 0;
        int least = WHOLE * SPAN;
        for (int stuff = 0; stuff < house.stuffCount; stuff++) {
            if (isTold(open, stuff)) {
                int own = brightOf(cut, stuff, colour);
                greatest = Math.max(greatest, own);
                least = Math.min(least, own);
            }
        }
        return greatest - least;
    }

    /** The number of the cell for which a sign of a ROW stands; NONE: for none. */
    private static int cellOf(int sign) {
        return CELLS.indexOf((char) sign);
    }

    /** Bytes, and the tokens of which they are made. */
    private static final class Tape {
        private final byte[] bytes = new byte[MOST_BYTES];
        int length = 0;
        /** Up to the text's end, to what is no token, or to the first token that has no room. */
        final int[] kinds = new int[MOST_TOKENS + 1];
        final int[] starts = new int[MOST_TOKENS + 1];
        /** Of an INT its number, of a NAME its letters in one number, of a ROW its length. */
        final long[] values = new long[MOST_TOKENS + 1];

        void append(int word) {
            for (int shift = 24; shift >= 0 && length < MOST_BYTES; shift -= 8) {
                bytes[length] = (byte) (word >> shift);
                length++;
            }
        }

        void scan() {
            int at = 0;
            boolean more = true;
            for (int i = 0; more && i <= MOST_TOKENS; i++) {
                at = pastBlanks(at);
                starts[i] = at;
                values[i] = 0;
                kinds[i] = END;
                if (at < length) {
                    at = scanToken(i, at);
                }
                more = kinds[i] != END && kinds[i] != BAD;
            }
        }

        /** The byte there; NONE beyond the text. */
        int byteAt(int at) {
            return at >= 0 && at < length ? bytes[at] & 255 : NONE;
        }

        private int pastBlanks(int from) {
            int at = from;
            while (at < length && isBlank(byteAt(at))) {
                at++;
            }
            return at;
        }

        /** Writes down token i, that begins at from, and answers where it ends. */
        private int scanToken(int i, int from) {
            int first = byteAt(from);
            int end = from + 1;
            if (isLetter(first)) {
                while (end < length && isLetter(byteAt(end))) {
                    end++;
                }
                keepWord(i, from, end);
            } else if (isDigit(first)) {
                while (end < length && isDigit(byteAt(end))) {
                    end++;
                }
                keepInt(i, from, end);
            } else if (first == '\'') {
                while (end < length && cellOf(byteAt(end)) != NONE) {
                    end++;
                }
                values[i] = end - from - 1;
                kinds[i] = values[i] >= 1 && values[i] <= SPAN ? ROW : BAD;
            } else {
                end = keepSign(i, from);
            }
            return end;
        }

        private void keepWord(int i, int from, int end) {
            if (end - from > MOST_LETTERS) {
                kinds[i] = BAD;
                return;
            }
            kinds[i] = wordKind(from, end);
            for (int k = from; k < end; k++) {
                values[i] = values[i] * 32 + (byteAt(k) - 'a' + 1);
            }
        }

        private int wordKind(int from, int end) {
            for (int slot = 0; slot < WORDS.length() / MOST_LETTERS; slot++) {
                int same = 0;
                for (int k = 0; same == k && k < MOST_LETTERS; k++) {
                    int c = from + k < end ? byteAt(from + k) : ' ';
                    if (WORDS.charAt(slot * MOST_LETTERS + k) == c) {
                        same++;
                    }
                }
                if (same == MOST_LETTERS) {
                    return FIRST_WORD + slot;
                }
            }
            return NAME;
        }

        private void keepInt(int i, int from, int end) {
            kinds[i] = end - from <= MOST_DIGITS ? INT : BAD;
            for (int k = from; k < end && k < from + MOST_DIGITS; k++) {
                values[i] = values[i] * 10 + (byteAt(k) - '0');
            }
        }

        private int keepSign(int i, int from) {
            int first = byteAt(from);
            if (byteAt(from + 1) == '=') {
                kinds[i] = first == '<' ? UP_TO : first == '=' ? SAME : first == '!' ? UNLIKE : BAD;
                if (kinds[i] != BAD) {
                    return from + 2;
                }
            }
            int sign = SIGNS.indexOf((char) first);
            kinds[i] = sign < 0 ? BAD : FIRST_SIGN + sign;
            return from + 1;
        }

        private static boolean isBlank(int c) {
            return c == 9 || c == 10 || c == 13 || c == 32;
        }

        private static boolean isLetter(int c) {
            return c >= 'a' && c <= 'z';
        }

        private static boolean isDigit(int c) {
            return c >= '0' && c <= '9';
        }
    }

    /** Reads a tape's tokens by the document's grammar, and finds the first FAULT. */
    private static final class Reader {
        int fault = 0;
        int faultPlace = NONE;
        /** A text is read into a house of its own, so that a FAULT leaves the one in use as it is. */
        private House house = new House();
        /** Which token is next. */
        private int at = 0;
        /** TWICE and WRONG count only if there is neither SYNTAX nor ROOM. */
        private int laterFault = 0;
        private int laterPlace = NONE;

        void readText(Tape tape) {
            fault = 0;
            faultPlace = NONE;
            laterFault = 0;
            laterPlace = NONE;
            at = 0;
            house.empty();
            for (int i = 0; i < MOST_TOKENS && fault == 0 && tape.kinds[at] != END; i++) {
                switch (tape.kinds[at]) {
                    case CUT: readCut(tape); break;
                    case ROUGH: readRough(tape); break;
                    case GRADE: readGrade(tape); break;
                    case PRICE: readPrice(tape); break;
                    // with any other token no TELL begins: it is SYNTAX there, as it is no 'stuff'
                    default: readStuff(tape); break;
                }
            }
            if (fault == 0) {
                fault = laterFault;
                faultPlace = laterPlace;
            }
        }

        /** Hands over the house that was read, for another one to read the next text into. */
        House exchange(House other) {
            House read = house;
            house = other;
            return read;
        }

        /** The next token's kind; behind a FAULT one with which nothing goes on. */
        private int kind(Tape tape) {
            return fault == 0 ? tape.kinds[at] : BAD;
        }

        /** Goes past the next token if it is of the kind and there is room; else it is the FAULT. */
        private boolean take(Tape tape, int kind, boolean room) {
            if (fault != 0) {
                return false;
            }
            if (tape.kinds[at] != kind) {
                fault = SYNTAX;
            } else if (!room || at >= MOST_TOKENS) {
                fault = ROOM;
            }
            if (fault != 0) {
                faultPlace = tape.starts[at];
                return false;
            }
            at++;
            return true;
        }

        /** Tokens are read in the order of their places, so the first one that is told is kept. */
        private void noteLater(int number, int place) {
            if (laterFault == 0) {
                laterFault = number;
                laterPlace = place;
            }
        }

        private void takeName(Tape tape) {
            int place = tape.starts[at];
            long name = tape.values[at];
            if (take(tape, NAME, true) && !house.addName(name)) {
                noteLater(TWICE, place);
            }
        }

        /** What of WHOLE is told by an INT. */
        private int takeShare(Tape tape, boolean room) {
            int place = tape.starts[at];
            int share = (int) tape.values[at];
            if (take(tape, INT, room) && share > WHOLE) {
                noteLater(WRONG, place);
            }
            return share;
        }

        private void readStuff(Tape tape) {
            if (!take(tape, STUFF, house.stuffCount < MOST_STUFFS)) {
                return;
            }
            takeName(tape);
            take(tape, COLON, true);
            Stuff stuff = house.addStuff();
            boolean more = true;
            for (int told = 0; more && told <= COLOURS; told++) {
                int flat = takeShare(tape, told < COLOURS);
                int slant = takeShare(tape, true);
                stuff.setShare(told, flat, slant);
                more = kind(tape) == COMMA && take(tape, COMMA, true);
            }
            if (kind(tape) == EATS && take(tape, EATS, true)) {
                stuff.eats = takeShare(tape, true);
            }
            take(tape, SEMICOLON, true);
        }

        private void readCut(Tape tape) {
            if (take(tape, CUT, house.cutCount < MOST_CUTS)) {
                readDrawing(tape, house.addCut());
            }
        }

        private void readRough(Tape tape) {
            if (take(tape, ROUGH, house.roughCount < MOST_ROUGHS)) {
                readDrawing(tape, house.addRough());
            }
        }

        private void readDrawing(Tape tape, Drawing drawing) {
            takeName(tape);
            int lastPlace = NONE;
            boolean more = true;
            for (int i = 0; more && i <= SPAN; i++) {
                lastPlace = tape.starts[at];
                takeRow(tape, drawing);
                more = kind(tape) == ROW;
            }
            take(tape, SEMICOLON, true);
            drawing.measureUp();
            if (drawing.heft == 0) {
                noteLater(WRONG, lastPlace);
            }
        }

        private void takeRow(Tape tape, Drawing drawing) {
            int place = tape.starts[at];
            int length = (int) tape.values[at];
            if (!take(tape, ROW, drawing.high < SPAN)) {
                return;
            }
            if (drawing.high > 0 && drawing.wide != length) {
                noteLater(WRONG, place);
            }
            drawing.addRow(tape, place + 1, length);
        }

        private void readGrade(Tape tape) {
            if (!take(tape, GRADE, house.gradeCount < MOST_GRADES)) {
                return;
            }
            takeName(tape);
            take(tape, IF, true);
            Rule rule = house.addGrade();
            rule.begin(house.codeLength);
            readCondition(tape);
            rule.end = house.codeLength;
            take(tape, SEMICOLON, true);
        }

        private void readPrice(Tape tape) {
            if (!take(tape, PRICE, house.priceCount < MOST_PRICES)) {
                return;
            }
            takeName(tape);
            Rule rule = house.addPrice();
            rule.begin(house.codeLength);
            readSum(tape, 0);
            rule.condition = house.codeLength;
            if (kind(tape) == IF && take(tape, IF, true)) {
                readCondition(tape);
            }
            rule.end = house.codeLength;
            take(tape, SEMICOLON, true);
        }

        /** COND; its 'and's come into the code ahead of the 'or' that waits for them. */
        private void readCondition(Tape tape) {
            boolean orWaits = false;
            boolean more = true;
            for (int i = 0; more && i < MOST_TOKENS; i++) {
                readLiteral(tape);
                for (int k = 0; k < MOST_TOKENS && kind(tape) == AND; k++) {
                    take(tape, AND, true);
                    readLiteral(tape);
                    house.addCode(AND, 0);
                }
                if (orWaits) {
                    house.addCode(OR, 0);
                }
                orWaits = true;
                more = kind(tape) == OR && take(tape, OR, true);
            }
        }

        private void readLiteral(Tape tape) {
            boolean turned = false;
            for (int i = 0; i < MOST_TOKENS && kind(tape) == NOT; i++) {
                take(tape, NOT, true);
                turned = !turned;
            }
            readSum(tape, 0);
            int sign = kind(tape);
            take(tape, sign >= BELOW && sign <= UNLIKE ? sign : SAME, true);
            readSum(tape, 0);
            house.addCode(sign, 0);
            if (turned) {
                house.addCode(NOT, 0);
            }
        }

        /** E; a + or - comes into the code behind the whole PART on its right. */
        private void readSum(Tape tape, int depth) {
            int waits = NONE;
            boolean more = fault == 0;
            for (int i = 0; more && i < MOST_TOKENS; i++) {
                readUnit(tape, depth);
                int sign = kind(tape);
                for (int k = 0; k < MOST_TOKENS && (sign == TIMES || sign == OVER); k++) {
                    take(tape, sign, true);
                    readUnit(tape, depth);
                    house.addCode(sign, 0);
                    sign = kind(tape);
                }
                if (waits != NONE) {
                    house.addCode(waits, 0);
                }
                waits = sign;
                more = (sign == PLUS || sign == MINUS) && take(tape, sign, true);
            }
        }

        private void readUnit(Tape tape, int depth) {
            int kind = kind(tape);
            if (kind == OPEN) {
                if (take(tape, OPEN, depth < MOST_OPEN)) {
                    readSum(tape, depth + 1);
                    take(tape, CLOSE, true);
                }
            } else if (kind >= FIRST_VAR && kind <= LAST_VAR) {
                take(tape, kind, true);
                house.addCode(kind, 0);
            } else {
                int value = (int) tape.values[at];
                take(tape, INT, true);
                house.addCode(INT, value);
            }
        }
    }

    /** What a text tells. */
    private static final class House {
        final Stuff[] stuffs = new Stuff[MOST_STUFFS];
        int stuffCount = 0;
        final Drawing[] cuts = new Drawing[MOST_CUTS];
        int cutCount = 0;
        final Drawing[] roughs = new Drawing[MOST_ROUGHS];
        int roughCount = 0;
        private final Rule[] grades = new Rule[MOST_GRADES];
        int gradeCount = 0;
        private final Rule[] prices = new Rule[MOST_PRICES];
        int priceCount = 0;
        private final long[] names = new long[MOST_NAMES];
        private int nameCount = 0;
        /** E and COND of all rules, operands ahead of their signs; each token makes one entry at most. */
        final int[] codeKinds = new int[MOST_TOKENS];
        final int[] codeValues = new int[MOST_TOKENS];
        int codeLength = 0;

        House() {
            for (int i = 0; i < MOST_STUFFS; i++) {
                stuffs[i] = new Stuff();
            }
            for (int i = 0; i < MOST_CUTS; i++) {
                cuts[i] = new Drawing();
            }
            for (int i = 0; i < MOST_ROUGHS; i++) {
                roughs[i] = new Drawing();
            }
            for (int i = 0; i < MOST_GRADES; i++) {
                grades[i] = new Rule();
            }
            for (int i = 0; i < MOST_PRICES; i++) {
                prices[i] = new Rule();
            }
        }

        void empty() {
            stuffCount = 0;
            cutCount = 0;
            roughCount = 0;
            gradeCount = 0;
            priceCount = 0;
            nameCount = 0;
            codeLength = 0;
        }

        /** Each of these is only for when there is room. */
        Stuff addStuff() {
            Stuff stuff = stuffs[stuffCount];
            stuffCount++;
            stuff.eats = USUAL_EATS;
            return stuff;
        }

        Drawing addCut() {
            Drawing cut = cuts[cutCount];
            cutCount++;
            cut.empty();
            return cut;
        }

        Drawing addRough() {
            Drawing rough = roughs[roughCount];
            roughCount++;
            rough.empty();
            return rough;
        }

        Rule addGrade() {
            Rule rule = grades[gradeCount];
            gradeCount++;
            return rule;
        }

        Rule addPrice() {
            Rule rule = prices[priceCount];
            priceCount++;
            return rule;
        }

        /** False if the name was told already. */
        boolean addName(long name) {
            for (int i = 0; i < nameCount; i++) {
                if (names[i] == name) {
                    return false;
                }
            }
            if (nameCount < MOST_NAMES) {
                names[nameCount] = name;
                nameCount++;
            }
            return true;
        }

        void addCode(int kind, int value) {
            if (codeLength < MOST_TOKENS) {
                codeKinds[codeLength] = kind;
                codeValues[codeLength] = value;
                codeLength++;
            }
        }

        int gradeBy(Shine shine, Reckoner reckoner) {
            for (int i = 0; i < gradeCount; i++) {
                if (reckoner.holds(this, grades[i], shine)) {
                    return i;
                }
            }
            return NOT_FOUND;
        }

        int priceBy(Shine shine, Reckoner reckoner) {
            for (int i = 0; i < priceCount; i++) {
                if (reckoner.holds(this, prices[i], shine)) {
                    int worth = reckoner.worth(this, prices[i], shine);
                    return Math.max(0, Math.min(worth, MOST_PRICE));
                }
            }
            return 0;
        }
    }

    private static final class Stuff {
        final int[] flat = new int[COLOURS];
        final int[] slant = new int[COLOURS];
        int eats = USUAL_EATS;

        /** The last share that is told is that of all colours behind it, too. */
        void setShare(int colour, int flatShare, int slantShare) {
            for (int i = colour; i < COLOURS; i++) {
                flat[i] = flatShare;
                slant[i] = slantShare;
            }
        }
    }

    /** A CUT or a ROUGH. */
    private static final class Drawing {
        private final int[] cells = new int[SPAN * SPAN];
        int wide = 0;
        int high = 0;
        int heft = 0;
        /** The columns with a cell that is not nothing, as bits. */
        int filledColumns = 0;
        /** The columns and the row where what is not nothing begins and ends. */
        int firstColumn = 0;
        int lastColumn = 0;
        private int lastRow = 0;

        void empty() {
            wide = 0;
            high = 0;
        }

        /** A row from the tape, where its signs stand from there on. */
        void addRow(Tape tape, int from, int length) {
            if (high >= SPAN) {
                return;
            }
            if (high == 0) {
                wide = Math.min(length, SPAN);
            }
            for (int x = 0; x < wide; x++) {
                cells[SPAN * high + x] = x < length ? cellOf(tape.byteAt(from + x)) : NOTHING;
            }
            high++;
        }

        void measureUp() {
            heft = 0;
            filledColumns = 0;
            firstColumn = SPAN;
            lastColumn = 0;
            lastRow = 0;
            for (int y = 0; y < high; y++) {
                for (int x = 0; x < wide; x++) {
                    int cell = cellAt(x, y);
                    if (cell != NOTHING) {
                        heft += WEIGHTS[cell];
                        filledColumns |= 1 << x;
                        firstColumn = Math.min(firstColumn, x);
                        lastColumn = Math.max(lastColumn, x);
                        lastRow = y;
                    }
                }
            }
        }

        boolean hasPlace(int x, int y) {
            return x >= 0 && x < wide && y >= 0 && y < high;
        }

        /** Beyond the drawing there is nothing. */
        int cellAt(int x, int y) {
            return x >= 0 && x < wide && y >= 0 && y < high ? cells[SPAN * y + x] : NOTHING;
        }

        boolean hasLamp(int lamp, int number) {
            if (lamp == UP) {
                return number >= 0 && number < wide;
            }
            return (lamp == RIGHT || lamp == LEFT) && number >= 0 && number < high;
        }

        boolean isMirrored() {
            for (int y = 0; y < high; y++) {
                for (int x = 0; x < wide; x++) {
                    if (cellAt(x, y) != MIRRORED[cellAt(wide - 1 - x, y)]) {
                        return false;
                    }
                }
            }
            return true;
        }

        /** Whether this one FITS into the ground with its cell 0, 0 at left, top. */
        boolean liesIn(Drawing ground, int left, int top) {
            if (left + lastColumn >= ground.wide || top + lastRow >= ground.high) {
                return false;
            }
            for (int y = 0; y <= lastRow; y++) {
                for (int x = firstColumn; x <= lastColumn; x++) {
                    int cell = cellAt(x, y);
                    int under = ground.cellAt(left + x, top + y);
                    boolean sameHalf = cell == under && cell <= LAST_HALF;
                    if (cell != NOTHING && under != FULL && !sameHalf) {
                        return false;
                    }
                }
            }
            return true;
        }
    }

    /** A GRADE or a PRICE: where in the house's code its E (none of a GRADE) and its COND stand. */
    private static final class Rule {
        int worth = 0;
        int condition = 0;
        int end = 0;

        void begin(int from) {
            worth = from;
            condition = from;
            end = from;
        }
    }

    /** Reckons a rule's E and COND by a SHINE. */
    private static final class Reckoner {
        /** Six ( within one another hold fewer than twenty numbers back. */
        private final int[] stack = new int[32];
        private int height = 0;
        /** A division by 0 since the latest comparison. */
        private boolean broken = false;

        /** A rule without a COND holds. */
        boolean holds(House house, Rule rule, Shine shine) {
            return rule.condition >= rule.end || reckon(house, rule.condition, rule.end, shine) != 0;
        }

        int worth(House house, Rule rule, Shine shine) {
            int value = reckon(house, rule.worth, rule.condition, shine);
            return broken ? 0 : value;
        }

        private int reckon(House house, int from, int to, Shine shine) {
            height = 0;
            broken = false;
            for (int i = Math.max(0, from); i < to && i < house.codeLength; i++) {
                int kind = house.codeKinds[i];
                if (kind == INT) {
                    push(house.codeValues[i]);
                } else if (kind >= FIRST_VAR) {
                    push(shine.valueOf(kind - FIRST_VAR));
                } else if (kind == NOT) {
                    push(1 - pop());
                } else {
                    int right = pop();
                    int left = pop();
                    push(joined(kind, left, right));
                }
            }
            return pop();
        }

        private int joined(int kind, int left, int right) {
            switch (kind) {
                case PLUS: return left + right;
                case MINUS: return left - right;
                case TIMES: return left * right;
                case OVER: return divided(left, right);
                case AND: return left & right;
                case OR: return left | right;
                default: return compared(kind, left, right) ? 1 : 0;
            }
        }

        private int divided(int left, int right) {
            if (right == 0) {
                broken = true;
                return 0;
            }
            return left / right;
        }

        private boolean compared(int kind, int left, int right) {
            if (broken) {
                broken = false;
                return false;
            }
            switch (kind) {
                case BELOW: return left < right;
                case UP_TO: return left <= right;
                case SAME: return left == right;
                default: return left != right;
            }
        }

        private void push(int value) {
            if (height < stack.length) {
                stack[height] = value;
                height++;
            }
        }

        private int pop() {
            if (height <= 0) {
                return 0;
            }
            height--;
            return stack[height];
        }
    }

    /** Follows light through a cut and sums up where it ended. */
    private static final class Light {
        /** The cells of the STEPS of the light that was followed last. */
        final int[] trace = new int[MOST_STEPS];
        int steps = 0;
        /** What went OUT by the four ways, then GLARE, EATEN and LEFT, of all light since begin(). */
        final int[] sums = new int[LOST_AS_LEFT + 1];
        /** What went OUT up, by columns. */
        final int[] upward = new int[SPAN];
        int flawSteps = 0;
        private int flat = 0;
        private int slant = 0;
        private int eats = 0;
        private int x = 0;
        private int y = 0;
        private int way = UP;
        private int strength = 0;

        /** Only for a COLOUR that is one. */
        void begin(Stuff stuff, int colour) {
            Arrays.fill(sums, 0);
            Arrays.fill(upward, 0);
            steps = 0;
            flawSteps = 0;
            flat = stuff.flat[colour];
            slant = stuff.slant[colour];
            eats = stuff.eats;
        }

        /** Only for a LAMP that the cut has. */
        void follow(Drawing cut, int lamp, int number, int l) {
            steps = 0;
            enter(cut, lamp, number, l);
            for (int i = 0; i < MOST_STEPS && strength > 0; i++) {
                goThrough(cut);
            }
            sums[LOST_AS_LEFT] += strength;
        }

        private void enter(Drawing cut, int lamp, int number, int l) {
            way = lamp ^ TURN_ROUND;
            x = lamp == UP ? number : lamp == RIGHT ? cut.wide - 1 : 0;
            y = lamp == UP ? 0 : number;
            for (int i = 1; i < SPAN && cut.cellAt(x, y) == NOTHING; i++) {
                x += WAY_X[way];
                y += WAY_Y[way];
            }
            boolean inward = (SIDES[cut.cellAt(x, y)] >> lamp & 1) == 1;
            strength = inward ? l * flat / WHOLE : 0;
            sums[LOST_AS_GLARE] += l - strength;
        }

        /** One STEP. */
        private void goThrough(Drawing cut) {
            int cell = cut.cellAt(x, y);
            trace[steps] = SPAN * y + x;
            steps++;
            if (cell == FLAW) {
                int eaten = strength * eats / WHOLE;
                sums[LOST_TO_FLAWS] += eaten;
                strength -= eaten;
                flawSteps++;
            } else if (cell <= LAST_HALF) {
                goOut(slant);
                way = (SIDE_SUMS[cell] - (way ^ TURN_ROUND)) & 3;
            }
            int nextX = x + WAY_X[way];
            int nextY = y + WAY_Y[way];
            int back = way ^ TURN_ROUND;
            if ((SIDES[cut.cellAt(nextX, nextY)] >> back & 1) == 1) {
                x = nextX;
                y = nextY;
            } else {
                goOut(flat);
                way = back;
            }
        }

        private void goOut(int share) {
            int out = strength * share / WHOLE;
            sums[way] += out;
            if (way == UP) {
                upward[x] += out;
            }
            strength -= out;
        }
    }

    /** All LAMPS of a cut, and what is seen of their light. */
    private static final class Shine {
        final int[] sums = new int[SUMS];
        final Light light = new Light();
        int wide = 0;
        private int heft = 0;
        private int colour = 0;
        private int above = 0;
        private int left = 0;
        private int right = 0;
        private int headFrom = 1;
        private int headTo = 0;

        void setLamps(int aboveColumns, int leftOfRows, int rightOfRows) {
            above = aboveColumns;
            left = leftOfRows;
            right = rightOfRows;
        }

        void setHead(int from, int to) {
            headFrom = from;
            headTo = to;
        }

        void lightUp(Drawing cut, Stuff stuff, int ofColour) {
            wide = cut.wide;
            heft = cut.heft;
            colour = ofColour;
            light.begin(stuff, ofColour);
            int given = (left + right) * cut.high;
            for (int i = 0; i < cut.wide; i++) {
                if (i < headFrom || i > headTo) {
                    light.follow(cut, UP, i, above);
                    given += above;
                }
            }
            for (int i = 0; i < cut.high; i++) {
                light.follow(cut, LEFT, i, left);
                light.follow(cut, RIGHT, i, right);
            }
            sums[SUM_GIVEN] = given;
            sumUp(cut);
        }

        private void sumUp(Drawing cut) {
            int out = 0;
            for (int i = 0; i < LOST_AS_GLARE; i++) {
                out += light.sums[i];
            }
            sums[SUM_BRIGHT] = light.sums[UP];
            sums[SUM_LEAK] = out - light.sums[UP];
            sums[SUM_DARK] = darkColumns(cut);
            sums[SUM_UNEVEN] = unevenness();
            sums[SUM_FLAWS] = light.flawSteps;
            sums[SUM_GLARE] = light.sums[LOST_AS_GLARE];
            sums[SUM_EATEN] = light.sums[LOST_TO_FLAWS];
            sums[SUM_LEFT] = light.sums[LOST_AS_LEFT];
        }

        private int darkColumns(Drawing cut) {
            int greatest = 0;
            for (int i = 0; i < wide; i++) {
                greatest = Math.max(greatest, light.upward[i]);
            }
            int dark = 0;
            for (int i = 0; i < wide; i++) {
                if (light.upward[i] * 10 < greatest && isTold(cut.filledColumns, i)) {
                    dark++;
                }
            }
            return dark;
        }

        private int unevenness() {
            int sum = 0;
            for (int i = 0; i < wide / 2; i++) {
                sum += Math.abs(light.upward[i] - light.upward[wide - 1 - i]);
            }
            return sum;
        }

        /** Of a VAR, counted from FIRST_VAR on. */
        int valueOf(int variable) {
            switch (variable) {
                case VAR_WEIGHT: return heft;
                case VAR_WIDE: return wide;
                default: return variable >= 0 && variable < VAR_WEIGHT ? sums[variable] : colour;
            }
        }
    }

    /** TESTS and VOIDS in one row. */
    private static final class Tests {
        int size = 0;
        final int[] cuts = new int[MOST_TESTS];
        final int[] colours = new int[MOST_TESTS];
        final int[] seenBright = new int[MOST_TESTS];
        /** The TEST of which this one is a VOID; NONE: it is a TEST itself. */
        private final int[] voided = new int[MOST_TESTS];

        int addTest(int cut, int colour, int bright) {
            if (size >= MOST_TESTS) {
                return NONE;
            }
            cuts[size] = cut;
            colours[size] = colour;
            seenBright[size] = bright;
            voided[size] = NONE;
            size++;
            return size - 1;
        }

        int addVoid(int number) {
            if (size >= MOST_TESTS || number < 0 || number >= size || voided[number] != NONE) {
                return NONE;
            }
            voided[size] = number;
            size++;
            return size - 1;
        }

        boolean hasFirst(int n) {
            return n >= 0 && n <= size;
        }

        /** Whether there is a TEST with this number that none of the first n makes VOID. */
        boolean stands(int number, int n) {
            if (voided[number] != NONE) {
                return false;
            }
            for (int i = number + 1; i < n && i < size; i++) {
                if (voided[i] == number) {
                    return false;
                }
            }
            return true;
        }
    }
}
