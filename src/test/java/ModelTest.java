import java.util.ArrayList;
import java.util.Arrays;
import java.util.List;
import java.util.Random;

/** Runs of calls, made with fixed seeds, of which the class and the model must answer each alike. */
public final class ModelTest {
    private static final String BLANKS = " \n\t\r";
    private static final String[] VARS = {"bright", "leak", "dark", "weight", "uneven", "flaws", "wide", "colour"};
    private static final String[] ODD_TOKENS = {
        "stuff", "cut", "rough", "grade", "price", "eats", "if", "or", "and", "not", "bright", "colour", ";", ":", ",",
        "+", "-", "*", "/", "==", "!=", "<", "<=", "(", ")", "=", "!", ">", "'", "'#", "'.", "'#############", "12345",
        "1001", "0", "9999", "abcdefghi", "abcdefgh", "a", "A", "\u00e9", "\0", "'##'##", "((((((", "(((((((", ">=", "'5",
    };

    private final Random random;
    private CutStones stones = new CutStones();
    private Model model = new Model();
    private final List<String> calls = new ArrayList<>();
    private final List<String> names = new ArrayList<>();
    private int called = 0;
    private static int wrong = 0;
    private static final int[] FAULTS = new int[6];

    private ModelTest(long seed) {
        random = new Random(seed);
    }

    public static void main(String[] args) {
        int runs = args.length > 1 ? Integer.parseInt(args[1]) : 1500;
        for (int seed = 0; seed < runs && wrong == 0; seed++) {
            new ModelTest(seed).run(seed);
        }
        System.out.println("texts by their FAULTS: " + Arrays.toString(FAULTS));
        System.out.println(wrong == 0 ? "the class answers as the model" : "the class and the model part");
        if (wrong != 0) {
            System.exit(1);
        }
    }

    private void due(String call, int got, int want) {
        called++;
        calls.add(call + " -> " + got);
        if (got != want && wrong == 0) {
            wrong++;
            System.out.println(call + " answered " + got + ", the model " + want);
        }
    }

    private void run(int seed) {
        try {
            for (int texts = 0; texts < 4 && called < 420; texts++) {
                readText();
                for (int i = 0; i < 70 && wrong == 0; i++) {
                    callOne();
                }
            }
        } catch (RuntimeException e) {
            wrong++;
            e.printStackTrace(System.out);
        }
        if (wrong > 0) {
            System.out.println("seed " + seed);
            for (String call : calls) {
                System.out.println("  " + call);
            }
        }
    }

    // ---- texts

    private int below(int n) {
        return random.nextInt(n);
    }

    private boolean chance(int percent) {
        return random.nextInt(100) < percent;
    }

    private String pick(String... from) {
        return from[below(from.length)];
    }

    private void readText() {
        List<String> tokens = new ArrayList<>();
        if (chance(12)) {
            crowd(tokens);
        } else {
            tell(tokens);
        }
        if (chance(25)) {
            spoil(tokens);
        }
        boolean tight = chance(5);
        StringBuilder text = new StringBuilder();
        String last = "";
        for (String t : tokens) {
            boolean apart = !last.isEmpty() && (Character.isLetterOrDigit(t.charAt(0)) || "<=!.#'".indexOf(t.charAt(0)) >= 0);
            if (apart && !(tight && chance(10)) || chance(8)) {
                text.append(chance(85) ? ' ' : BLANKS.charAt(below(4)));
            }
            text.append(t);
            last = t;
        }
        if (chance(6) && text.length() > 0) {
            spoilBytes(text);
        }
        if (text.length() > 2000) {
            text.setLength(2000);
        }
        feedAndRead(text.toString());
    }

    private void feedAndRead(String text) {
        byte[] bytes = Model.bytesOf(text);
        byte[] padded = Arrays.copyOf(bytes, (bytes.length + 19) / 20 * 20);
        for (int i = 0; i < padded.length; i += 20) {
            int[] w = new int[5];
            for (int k = 0; k < 20; k++) {
                w[k / 4] = w[k / 4] << 8 | padded[i + k] & 255;
            }
            int got = stones.feed(w[0], w[1], w[2], w[3], w[4]);
            due("feed(" + w[0] + ", ..)", got, model.feed(w));
        }
        due("back", stones.back(padded.length - bytes.length), model.back(padded.length - bytes.length));
        calls.add("text: " + text);
        int want = model.read();
        FAULTS[want]++;
        due("read()", stones.read(), want);
        due("place()", stones.place(), model.place());
    }

    private String name() {
        if (!names.isEmpty() && chance(1)) {
            return names.get(below(names.size()));
        }
        int n = names.size();
        StringBuilder name = new StringBuilder(n < 26 ? "n" : "nn").append((char) ('a' + n % 26));
        for (int i = below(6); i > 0; i--) {
            name.append((char) ('a' + below(26)));
        }
        names.add(name.toString());
        return name.toString();
    }

    private void tell(List<String> tokens) {
        names.clear();
        int stuffs = below(5);
        int cuts = below(7);
        int roughs = below(4);
        int grades = below(4);
        int prices = below(4);
        for (int left = stuffs + cuts + roughs + grades + prices; left > 0; left--) {
            int k = below(left);
            if (k < stuffs) {
                stuffs--;
                stuff(tokens, chance(2) ? 5 : 1 + below(4));
            } else if ((k -= stuffs) < cuts) {
                cuts--;
                drawing(tokens, "cut");
            } else if ((k -= cuts) < roughs) {
                roughs--;
                drawing(tokens, "rough");
            } else if ((k -= roughs) < grades) {
                grades--;
                tokens.addAll(Arrays.asList("grade", name(), "if"));
                condition(tokens);
                tokens.add(";");
            } else {
                prices--;
                price(tokens);
            }
        }
    }

    /** More of something than there may be. */
    private void crowd(List<String> tokens) {
        names.clear();
        int what = below(9);
        if (what == 0) {
            for (int i = 0; i < 4 + below(2); i++) {
                stuff(tokens, 1);
            }
        } else if (what <= 2) {
            for (int i = 0; i < (what == 1 ? 6 : 4) + below(2); i++) {
                tokens.addAll(Arrays.asList(what == 1 ? "cut" : "rough", name(), "'#", ";"));
            }
        } else if (what <= 4) {
            for (int i = 0; i < 8 + below(2); i++) {
                tokens.addAll(what == 3 ? Arrays.asList("grade", name(), "if", "1", "<", "2", ";")
                        : Arrays.asList("price", name(), "1", ";"));
            }
        } else if (what == 5) {
            tokens.addAll(Arrays.asList("rough", name()));
            for (int i = 0; i < 12 + below(2); i++) {
                tokens.add("'#");
            }
            tokens.add(";");
        } else if (what == 6) {
            int deep = 5 + below(3);
            tokens.addAll(Arrays.asList("price", name()));
            for (int i = 0; i < deep; i++) {
                tokens.addAll(Arrays.asList("2", "*", "1", "+", "("));
            }
            tokens.add("1");
            for (int i = 0; i < deep; i++) {
                tokens.add(")");
            }
            tokens.add(";");
        } else {
            tokens.addAll(Arrays.asList("cut", name(), "'#", ";", "stuff", name(), ":", "1", "1", ";", "grade", name(), "if"));
            int most = 495 + below(8);
            boolean nots = what == 7;
            while (tokens.size() < most - 4) {
                tokens.addAll(nots ? Arrays.asList("not") : Arrays.asList(pick("bright", "1", "0"), pick("+", "-", "*", "/")));
            }
            tokens.addAll(Arrays.asList("1", "<", "2", ";"));
        }
    }

    private String number() {
        return String.valueOf(below(400) == 0 ? 1001 : chance(30) ? 1000 : chance(20) ? 0 : below(1001));
    }

    private void stuff(List<String> tokens, int shares) {
        tokens.addAll(Arrays.asList("stuff", name(), ":"));
        for (int i = 0; i < shares; i++) {
            if (i > 0) {
                tokens.add(",");
            }
            tokens.add(number());
            tokens.add(chance(50) ? "0" : number());
        }
        if (chance(60)) {
            tokens.addAll(Arrays.asList("eats", number()));
        }
        tokens.add(";");
    }

    private void drawing(List<String> tokens, String kind) {
        tokens.addAll(Arrays.asList(kind, name()));
        boolean rough = kind.equals("rough");
        int most = chance(rough ? 60 : 15) ? 12 : 6;
        int wide = 1 + below(most);
        int high = 1 + below(most);
        boolean even = chance(30);
        int hollow = rough ? 6 : pickInt(5, 30, 50);
        for (int y = 0; y < high; y++) {
            StringBuilder row = new StringBuilder();
            for (int x = 0; x < wide; x++) {
                row.append(chance(hollow) ? '.' : chance(rough ? 5 : 30) ? (char) ('1' + below(4)) : chance(8) ? 'x' : '#');
            }
            for (int x = 0; even && x < wide / 2; x++) {
                row.setCharAt(wide - 1 - x, ".2143#x".charAt(".1234#x".indexOf(row.charAt(x))));
            }
            if (below(400) == 0) {
                row.append('#');
            }
            tokens.add("'" + row.substring(0, Math.min(row.length(), 12)));
        }
        tokens.add(";");
    }

    private int pickInt(int... from) {
        return from[below(from.length)];
    }

    private void price(List<String> tokens) {
        tokens.addAll(Arrays.asList("price", name()));
        sum(tokens, 0);
        if (chance(60)) {
            tokens.add("if");
            condition(tokens);
        }
        tokens.add(";");
    }

    private void condition(List<String> tokens) {
        int lits = 1 + below(4);
        for (int i = 0; i < lits; i++) {
            if (i > 0) {
                tokens.add(pick("or", "and"));
            }
            for (int n = chance(30) ? 1 + below(3) : 0; n > 0; n--) {
                tokens.add("not");
            }
            sum(tokens, 1);
            tokens.add(pick("==", "!=", "<", "<="));
            sum(tokens, 1);
        }
    }

    private void sum(List<String> tokens, int depth) {
        for (int n = below(3); n >= 0; n--) {
            for (int m = below(5) / 2; m >= 0; m--) {
                if (depth < 4 && chance(15)) {
                    tokens.add("(");
                    sum(tokens, depth + 1);
                    tokens.add(")");
                } else {
                    tokens.add(chance(55) ? pick(VARS) : chance(20) ? "9999" : String.valueOf(below(30)));
                }
                tokens.add(pick("*", "/"));
            }
            tokens.set(tokens.size() - 1, pick("+", "-"));
        }
        tokens.remove(tokens.size() - 1);
    }

    private void spoil(List<String> tokens) {
        for (int n = 1 + below(2); n > 0 && !tokens.isEmpty(); n--) {
            int i = below(tokens.size());
            int how = below(5);
            if (how == 0) {
                tokens.remove(i);
            } else if (how == 1) {
                tokens.add(i, pick(ODD_TOKENS));
            } else if (how == 2) {
                tokens.set(i, pick(ODD_TOKENS));
            } else if (how == 3) {
                tokens.add(i, tokens.get(below(tokens.size())));
            } else {
                while (tokens.size() > i) {
                    tokens.remove(tokens.size() - 1);
                }
            }
        }
    }

    private void spoilBytes(StringBuilder text) {
        int i = below(text.length());
        if (chance(50)) {
            text.setCharAt(i, (char) below(256));
        } else {
            text.setLength(i);
        }
    }

    // ---- calls

    /** Mostly a number below n, at times one that is none. */
    private int some(int n) {
        if (chance(4)) {
            return pickInt(-1, n, n + 1, -2, 99, Integer.MIN_VALUE, Integer.MAX_VALUE, -2147483647);
        }
        return below(Math.max(1, n));
    }

    private int light(int least) {
        return chance(4) ? pickInt(-1, 0, 100001, Integer.MIN_VALUE) : pickInt(least, 1, 10, 1000, 100000, below(5000) + least);
    }

    private void callOne() {
        int stuffs = model.count(0);
        int cuts = model.count(1);
        int roughs = model.count(2);
        int tests = model.count(5);
        int cut = some(cuts);
        int wide = Math.max(1, model.count(10 + Math.floorMod(cut, 10)));
        int high = Math.max(1, model.count(20 + Math.floorMod(cut, 10)));
        int stuff = some(stuffs);
        int colour = some(4);
        switch (below(24)) {
            case 0: { boolean r = chance(50); int k = some(r ? roughs : cuts); due("weight(" + r + ", " + k + ")", stones.weight(r, k), model.weight(r, k)); break; }
            case 1: { boolean r = chance(50); int k = some(r ? roughs : cuts); int x = some(wide); int y = some(high); due("cell(" + r + ", " + k + ", " + x + ", " + y + ")", stones.cell(r, k, x, y), model.cell(r, k, x, y)); break; }
            case 2: due("even(" + cut + ")", stones.even(cut), model.even(cut)); break;
            case 3: case 4: { int way = chance(5) ? pickInt(2, 4, -1) : pickInt(0, 1, 3); int i = some(way == 0 ? wide : high); int l = light(1); due("ray(" + cut + ", " + stuff + ", " + colour + ", " + way + ", " + i + ", " + l + ")", stones.ray(cut, stuff, colour, way, i, l), model.ray(cut, stuff, colour, way, i, l)); break; }
            case 5: { int k = chance(50) ? some(300) : some(6); due("step(" + k + ")", stones.step(k), model.step(k)); break; }
            case 6: { int k = some(7); due("spark(" + k + ")", stones.spark(k), model.spark(k)); break; }
            case 7: case 8: { int[] l = {light(0), light(0), light(0)}; int a = chance(50) ? 1 : some(wide); int b = chance(50) ? 0 : some(wide); due("shine(" + cut + ", " + stuff + ", " + colour + ", " + Arrays.toString(l) + ", " + a + ", " + b + ")", stones.shine(cut, stuff, colour, l[0], l[1], l[2], a, b), model.shine(cut, stuff, colour, l[0], l[1], l[2], a, b)); break; }
            case 9: { int k = some(9); due("seen(" + k + ")", stones.seen(k), model.seen(k)); break; }
            case 10: { int k = some(wide); due("column(" + k + ")", stones.column(k), model.column(k)); break; }
            case 11: due("grade()", stones.grade(), model.grade()); break;
            case 12: due("price()", stones.price(), model.price()); break;
            case 13: { int r = some(roughs); int x = some(12); int y = some(12); due("fits(" + cut + ", " + r + ", " + x + ", " + y + ")", stones.fits(cut, r, x, y), model.fits(cut, r, x, y)); break; }
            case 14: { int r = some(roughs); due("places(" + cut + ", " + r + ")", stones.places(cut, r), model.places(cut, r)); break; }
            case 15: { int c = some(1 << cuts); int r = some(roughs); due("dearest(" + c + ", " + r + ", " + stuff + ")", stones.dearest(c, r, stuff), model.dearest(c, r, stuff)); lying(); break; }
            case 16: { int c = some(1 << cuts); int r = some(roughs); due("two(" + c + ", " + r + ", " + stuff + ")", stones.two(c, r, stuff), model.two(c, r, stuff)); lying(); break; }
            case 17: { int k = some(7); due("laid(" + k + ")", stones.laid(k), model.laid(k)); break; }
            case 18: { int own = Math.max(0, model.bright(cut, stuff, colour)); int b = chance(20) ? light(0) : Math.max(0, own + pickInt(0, own / 20 + 5, own / 21 + 7, -own / 20 - 5, -own / 19 - 5, below(200))); due("test(" + cut + ", " + colour + ", " + b + ")", stones.test(cut, colour, b), model.test(cut, colour, b)); break; }
            case 19: { int t = some(tests); due("annul(" + t + ")", stones.annul(t), model.annul(t)); break; }
            case 20: due("bright(" + cut + ", " + stuff + ", " + colour + ")", stones.bright(cut, stuff, colour), model.bright(cut, stuff, colour)); break;
            case 21: { int n = some(tests + 1); due("barred(" + stuff + ", " + n + ")", stones.barred(stuff, n), model.barred(stuff, n)); break; }
            case 22: { int n = some(tests + 1); due("left(" + n + ")", stones.left(n), model.left(n)); due("next(" + n + ")", stones.next(n), model.next(n)); break; }
            default: { int k = chance(70) ? some(50) : some(7); due("count(" + k + ")", stones.count(k), model.count(k)); break; }
        }
    }

    private void lying() {
        for (int k = 0; k < 7; k++) {
            due("laid(" + k + ")", stones.laid(k), model.laid(k));
        }
    }
}
