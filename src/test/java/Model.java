import java.nio.charset.StandardCharsets;
import java.util.ArrayList;
import java.util.Arrays;
import java.util.HashSet;
import java.util.List;
import java.util.Set;
import java.util.regex.Matcher;
import java.util.regex.Pattern;

/** A second reading of the document, plain and slow, to hold the class against. */
final class Model {
    private static final Set<String> WORDS = new HashSet<>(Arrays.asList(
            "stuff", "eats", "cut", "rough", "grade", "if", "price", "or", "and", "not",
            "bright", "leak", "dark", "weight", "uneven", "flaws", "wide", "colour"));
    private static final String KINDS = ".1234#x";

    static final class DividedByZero extends RuntimeException {
        private static final long serialVersionUID = 1L;
    }

    static final class Token {
        String kind;
        String text;
        int at;
    }

    static final class Stuff {
        List<int[]> shares = new ArrayList<>();
        int eats = 200;

        int[] share(int colour) {
            return shares.get(Math.min(colour, shares.size() - 1));
        }
    }

    static final class Rule {
        List<String> worth = new ArrayList<>();
        List<String> cond = new ArrayList<>();
    }

    static final class Text {
        List<Stuff> stuffs = new ArrayList<>();
        List<List<String>> cuts = new ArrayList<>();
        List<List<String>> roughs = new ArrayList<>();
        List<Rule> grades = new ArrayList<>();
        List<Rule> prices = new ArrayList<>();
    }

    static final class Followed {
        List<Integer> cells = new ArrayList<>();
        long[] out = new long[4];
        long[] up = new long[12];
        long glare;
        long eaten;
        long left;
        int flaws;
    }

    static final class Shone {
        List<String> cut;
        int colour;
        long bright;
        long leak;
        int dark;
        long uneven;
        int flaws;
        long glare;
        long eaten;
        long left;
        long given;
        long[] up;
    }

    private StringBuilder tape = new StringBuilder();
    private Text text = new Text();
    private int faultPlace = -1;
    private Followed followed;
    private Shone shone;
    private int[] laid;
    private List<int[]> tests = new ArrayList<>();

    // ---- the text

    int feed(int... words) {
        if (tape.length() + 20 > 2000) {
            return -1;
        }
        for (int w : words) {
            for (int k = 3; k >= 0; k--) {
                tape.append((char) (w >>> 8 * k & 255));
            }
        }
        return tape.length();
    }

    int back(int n) {
        if (n < 0 || n > tape.length()) {
            return -1;
        }
        tape.setLength(tape.length() - n);
        return tape.length();
    }

    private static List<Token> tokens(String text) {
        Matcher m = Pattern.compile("[\\t\\n\\r ]+|[a-z]+|[0-9]+|'[#.1234x]*|==|!=|<=|.", Pattern.DOTALL).matcher(text);
        List<Token> found = new ArrayList<>();
        while (m.find()) {
            String t = m.group();
            if (t.matches("[\\t\\n\\r ]+")) {
                continue;
            }
            Token token = new Token();
            token.text = t;
            token.at = m.start();
            if (t.matches("[a-z]+")) {
                token.kind = WORDS.contains(t) ? t : t.length() <= 8 ? "NAME" : null;
            } else if (t.matches("[0-9]+")) {
                token.kind = t.length() <= 4 ? "INT" : null;
            } else if (t.startsWith("'")) {
                token.kind = t.length() >= 2 && t.length() <= 13 ? "ROW" : null;
            } else {
                token.kind = t.matches("==|!=|<=|[;:,+\\-*/<()]") ? t : null;
            }
            found.add(token);
        }
        return found;
    }

    /** Number and place of the first SYNTAX or ROOM, or null. */
    private static int[] firstFault(List<Token> tokens, int length) {
        Grammar grammar = new Grammar();
        String[] heads = {"stuff", "cut", "rough", "grade", "price"};
        int[] most = {4, 6, 4, 8, 8};
        int[] told = new int[5];
        int ints = 0;
        int rows = 0;
        int open = 0;
        String head = "";
        for (int i = 0; i < tokens.size(); i++) {
            Token t = tokens.get(i);
            if (t.kind == null || !grammar.goOn(t.kind)) {
                return new int[] {1, t.at};
            }
            boolean room = i < 500;
            int which = Arrays.asList(heads).indexOf(t.kind);
            if (which >= 0) {
                head = t.kind;
                ints = 0;
                rows = 0;
                told[which]++;
                room &= told[which] <= most[which];
            }
            if (t.kind.equals("eats")) {
                head = "";
            }
            if (head.equals("stuff") && t.kind.equals("INT")) {
                room &= ++ints <= 8;
            }
            if (t.kind.equals("ROW")) {
                room &= ++rows <= 12;
            }
            if (t.kind.equals("(")) {
                room &= ++open <= 6;
            }
            if (t.kind.equals(")")) {
                open--;
            }
            if (!room) {
                return new int[] {2, t.at};
            }
        }
        return grammar.mayEnd() ? null : new int[] {1, length};
    }

    /** Number and place of the first TWICE or WRONG, or null. */
    private static int[] laterFault(List<Token> tokens) {
        Set<String> names = new HashSet<>();
        Token first = null;
        String cells = "";
        Token last = null;
        String head = "";
        for (Token t : tokens) {
            if (t.kind.equals("NAME") && !names.add(t.text)) {
                return new int[] {3, t.at};
            }
            if (Arrays.asList("stuff", "cut", "rough", "grade", "price").contains(t.kind)) {
                head = t.kind;
                first = null;
                last = null;
                cells = "";
            }
            if (head.equals("stuff") && t.kind.equals("INT") && Integer.parseInt(t.text) > 1000) {
                return new int[] {5, t.at};
            }
            if (t.kind.equals("ROW")) {
                first = first == null ? t : first;
                last = t;
                cells += t.text.substring(1);
                if (t.text.length() != first.text.length()) {
                    return new int[] {5, t.at};
                }
            }
            if (t.kind.equals(";") && last != null && cells.matches("\\.*")) {
                return new int[] {5, last.at};
            }
        }
        return null;
    }

    private static Text build(List<Token> tokens) {
        Text made = new Text();
        List<Token> tell = new ArrayList<>();
        for (Token t : tokens) {
            if (!t.kind.equals(";")) {
                tell.add(t);
                continue;
            }
            String head = tell.get(0).kind;
            List<String> rest = new ArrayList<>();
            for (Token r : tell.subList(2, tell.size())) {
                rest.add(r.text);
            }
            if (head.equals("stuff")) {
                made.stuffs.add(buildStuff(rest));
            } else if (head.equals("cut") || head.equals("rough")) {
                List<String> rows = new ArrayList<>();
                for (String r : rest) {
                    rows.add(r.substring(1));
                }
                (head.equals("cut") ? made.cuts : made.roughs).add(rows);
            } else {
                Rule rule = new Rule();
                int when = rest.indexOf("if");
                rule.worth = when < 0 ? rest : rest.subList(0, when);
                rule.cond = when < 0 ? null : rest.subList(when + 1, rest.size());
                (head.equals("grade") ? made.grades : made.prices).add(rule);
            }
            tell = new ArrayList<>();
        }
        return made;
    }

    private static Stuff buildStuff(List<String> rest) {
        Stuff stuff = new Stuff();
        int eats = rest.indexOf("eats");
        if (eats >= 0) {
            stuff.eats = Integer.parseInt(rest.get(eats + 1));
        }
        for (int i = 1; i < (eats < 0 ? rest.size() : eats); i += 3) {
            stuff.shares.add(new int[] {Integer.parseInt(rest.get(i)), Integer.parseInt(rest.get(i + 1))});
        }
        return stuff;
    }

    int read() {
        String all = tape.toString();
        tape = new StringBuilder();
        List<Token> tokens = tokens(all);
        int[] fault = firstFault(tokens, all.length());
        if (fault == null) {
            fault = laterFault(tokens);
        }
        if (fault != null) {
            faultPlace = fault[1];
            return fault[0];
        }
        text = build(tokens);
        faultPlace = -1;
        followed = null;
        shone = null;
        laid = null;
        tests = new ArrayList<>();
        return 0;
    }

    int place() {
        return faultPlace;
    }

    // ---- drawings

    private static char at(List<String> rows, int x, int y) {
        if (y < 0 || y >= rows.size() || x < 0 || x >= rows.get(0).length()) {
            return '.';
        }
        return rows.get(y).charAt(x);
    }

    private static int weigh(List<String> rows) {
        int sum = 0;
        for (String row : rows) {
            for (char c : row.toCharArray()) {
                sum += c == '.' ? 0 : c == '#' || c == 'x' ? 2 : 1;
            }
        }
        return sum;
    }

    private static <T> boolean has(List<T> list, int k) {
        return k >= 0 && k < list.size();
    }

    int weight(boolean rough, int k) {
        List<List<String>> of = rough ? text.roughs : text.cuts;
        return has(of, k) ? weigh(of.get(k)) : -1;
    }

    int cell(boolean rough, int k, int x, int y) {
        List<List<String>> of = rough ? text.roughs : text.cuts;
        if (!has(of, k) || !has(of.get(k), y) || x < 0 || x >= of.get(k).get(0).length()) {
            return -1;
        }
        return KINDS.indexOf(at(of.get(k), x, y));
    }

    int even(int cut) {
        if (!has(text.cuts, cut)) {
            return -1;
        }
        for (String row : text.cuts.get(cut)) {
            StringBuilder other = new StringBuilder(row).reverse();
            String mirrored = other.toString().replace('1', 'a').replace('2', '1').replace('a', '2')
                    .replace('3', 'b').replace('4', '3').replace('b', '4');
            if (!mirrored.equals(row)) {
                return 0;
            }
        }
        return 1;
    }

    // ---- light

    /** The sides that a cell has, as letters u r d l. */
    private static String sides(char c) {
        switch (c) {
            case '1': return "ul";
            case '2': return "ur";
            case '3': return "dr";
            case '4': return "dl";
            case '.': return "";
            default: return "urdl";
        }
    }

    private static char reverse(char way) {
        return "dlur".charAt("urdl".indexOf(way));
    }

    private static void follow(Followed f, List<String> cut, int[] share, int eats, String lamp, int i, long light) {
        char way = reverse(lamp.charAt(0));
        int wide = cut.get(0).length();
        int x = lamp.equals("u") ? i : lamp.equals("l") ? 0 : wide - 1;
        int y = lamp.equals("u") ? 0 : i;
        while (x >= 0 && x < wide && y < cut.size() && at(cut, x, y) == '.') {
            x += way == 'r' ? 1 : way == 'l' ? -1 : 0;
            y += way == 'd' ? 1 : 0;
        }
        if (!sides(at(cut, x, y)).contains(lamp)) {
            f.glare += light;
            return;
        }
        long l = light * share[0] / 1000;
        f.glare += light - l;
        int steps = 0;
        while (l != 0 && steps < 300) {
            steps++;
            f.cells.add(12 * y + x);
            char c = at(cut, x, y);
            if (c == 'x') {
                f.flaws++;
                long bite = l * eats / 1000;
                f.eaten += bite;
                l -= bite;
            }
            if (c >= '1' && c <= '4') {
                long through = l * share[1] / 1000;
                f.out["urdl".indexOf(way)] += through;
                if (way == 'u') {
                    f.up[x] += through;
                }
                l -= through;
                way = sides(c).replace(String.valueOf(reverse(way)), "").charAt(0);
            }
            int nx = x + (way == 'r' ? 1 : way == 'l' ? -1 : 0);
            int ny = y + (way == 'd' ? 1 : way == 'u' ? -1 : 0);
            if (sides(at(cut, nx, ny)).indexOf(reverse(way)) >= 0) {
                x = nx;
                y = ny;
            } else {
                long through = l * share[0] / 1000;
                f.out["urdl".indexOf(way)] += through;
                if (way == 'u') {
                    f.up[x] += through;
                }
                l -= through;
                way = reverse(way);
            }
        }
        f.left += l;
    }

    private boolean known(int cut, int stuff, int colour) {
        return has(text.cuts, cut) && has(text.stuffs, stuff) && colour >= 0 && colour < 4;
    }

    int ray(int cut, int stuff, int colour, int way, int i, int l) {
        if (!known(cut, stuff, colour) || l < 1 || l > 100000 || way != 0 && way != 1 && way != 3) {
            return -1;
        }
        List<String> rows = text.cuts.get(cut);
        if (i < 0 || i >= (way == 0 ? rows.get(0).length() : rows.size())) {
            return -1;
        }
        Stuff s = text.stuffs.get(stuff);
        followed = new Followed();
        follow(followed, rows, s.share(colour), s.eats, way == 0 ? "u" : way == 1 ? "r" : "l", i, l);
        return followed.cells.size();
    }

    int step(int k) {
        return followed != null && has(followed.cells, k) ? followed.cells.get(k) : -1;
    }

    int spark(int what) {
        if (followed == null || what < 0 || what > 6) {
            return -1;
        }
        return (int) (what < 4 ? followed.out[what] : what == 4 ? followed.glare : what == 5 ? followed.eaten : followed.left);
    }

    private Shone light(int cut, int stuff, int colour, int above, int left, int right, int a, int b) {
        Shone s = new Shone();
        List<String> rows = text.cuts.get(cut);
        Stuff st = text.stuffs.get(stuff);
        Followed f = new Followed();
        int wide = rows.get(0).length();
        for (int x = 0; x < wide; x++) {
            if (!(a <= x && x <= b)) {
                s.given += above;
                follow(f, rows, st.share(colour), st.eats, "u", x, above);
            }
        }
        for (int y = 0; y < rows.size(); y++) {
            s.given += left;
            follow(f, rows, st.share(colour), st.eats, "l", y, left);
            s.given += right;
            follow(f, rows, st.share(colour), st.eats, "r", y, right);
        }
        s.cut = rows;
        s.colour = colour;
        s.up = Arrays.copyOf(f.up, wide);
        s.bright = f.out[0];
        s.leak = f.out[1] + f.out[2] + f.out[3];
        s.flaws = f.flaws;
        s.glare = f.glare;
        s.eaten = f.eaten;
        s.left = f.left;
        long greatest = Arrays.stream(s.up).max().getAsLong();
        for (int x = 0; x < wide; x++) {
            boolean stone = false;
            for (String row : rows) {
                stone |= row.charAt(x) != '.';
            }
            if (stone && 10 * s.up[x] < greatest) {
                s.dark++;
            }
            if (x < wide - 1 - x) {
                s.uneven += Math.abs(s.up[x] - s.up[wide - 1 - x]);
            }
        }
        if (s.bright + s.leak + s.glare + s.eaten + s.left != s.given) {
            throw new IllegalStateException("the model lost light");
        }
        return s;
    }

    int shine(int cut, int stuff, int colour, int above, int left, int right, int a, int b) {
        if (!known(cut, stuff, colour) || Math.min(above, Math.min(left, right)) < 0
                || Math.max(above, Math.max(left, right)) > 100000) {
            return -1;
        }
        shone = light(cut, stuff, colour, above, left, right, a, b);
        return (int) shone.bright;
    }

    int seen(int what) {
        if (shone == null || what < 0 || what > 8) {
            return -1;
        }
        long[] all = {shone.bright, shone.leak, shone.dark, shone.uneven, shone.flaws, shone.glare, shone.eaten,
            shone.left, shone.given};
        return (int) all[what];
    }

    int column(int x) {
        return shone == null || x < 0 || x >= shone.up.length ? -1 : (int) shone.up[x];
    }

    // ---- rules

    private static int valueOf(String unit, Shone s) {
        switch (unit) {
            case "bright": return (int) s.bright;
            case "leak": return (int) s.leak;
            case "dark": return s.dark;
            case "weight": return weigh(s.cut);
            case "uneven": return (int) s.uneven;
            case "flaws": return s.flaws;
            case "wide": return s.cut.get(0).length();
            case "colour": return s.colour;
            default: return Integer.parseInt(unit);
        }
    }

    /** Splits at the last of the signs outside all parentheses, as they take from the left. */
    private static int reckon(List<String> e, Shone s) {
        for (String[] signs : new String[][] {{"+", "-"}, {"*", "/"}}) {
            int open = 0;
            for (int i = e.size() - 1; i >= 0; i--) {
                open += e.get(i).equals(")") ? 1 : e.get(i).equals("(") ? -1 : 0;
                if (open == 0 && Arrays.asList(signs).contains(e.get(i))) {
                    int a = reckon(e.subList(0, i), s);
                    int b = reckon(e.subList(i + 1, e.size()), s);
                    switch (e.get(i)) {
                        case "+": return a + b;
                        case "-": return a - b;
                        case "*": return a * b;
                        default:
                            if (b == 0) {
                                throw new DividedByZero();
                            }
                            return a / b;
                    }
                }
            }
        }
        return e.get(0).equals("(") ? reckon(e.subList(1, e.size() - 1), s) : valueOf(e.get(0), s);
    }

    private static boolean holds(List<String> cond, Shone s) {
        int or = cond.lastIndexOf("or");
        if (or >= 0) {
            return holds(cond.subList(0, or), s) | holds(cond.subList(or + 1, cond.size()), s);
        }
        int and = cond.lastIndexOf("and");
        if (and >= 0) {
            return holds(cond.subList(0, and), s) & holds(cond.subList(and + 1, cond.size()), s);
        }
        if (cond.get(0).equals("not")) {
            return !holds(cond.subList(1, cond.size()), s);
        }
        for (String sign : new String[] {"==", "!=", "<", "<="}) {
            int i = cond.indexOf(sign);
            if (i >= 0) {
                try {
                    int a = reckon(cond.subList(0, i), s);
                    int b = reckon(cond.subList(i + 1, cond.size()), s);
                    return sign.equals("==") ? a == b : sign.equals("!=") ? a != b : sign.equals("<") ? a < b : a <= b;
                } catch (DividedByZero e) {
                    return false;
                }
            }
        }
        throw new IllegalStateException("no sign in " + cond);
    }

    private int priceOf(Shone s) {
        for (Rule rule : text.prices) {
            if (rule.cond == null || holds(rule.cond, s)) {
                try {
                    return Math.max(0, Math.min(1000000, reckon(rule.worth, s)));
                } catch (DividedByZero e) {
                    return 0;
                }
            }
        }
        return 0;
    }

    int grade() {
        if (shone == null) {
            return -1;
        }
        for (int i = 0; i < text.grades.size(); i++) {
            if (holds(text.grades.get(i).cond, shone)) {
                return i;
            }
        }
        return -2;
    }

    int price() {
        return shone == null ? -1 : priceOf(shone);
    }

    // ---- laying

    private static boolean fit(List<String> cut, List<String> rough, int x, int y, int from, int to) {
        for (int j = 0; j < cut.size(); j++) {
            for (int i = 0; i < cut.get(0).length(); i++) {
                char c = at(cut, i, j);
                char under = at(rough, x + i, y + j);
                if (c != '.' && (x + i < from || x + i >= to)) {
                    return false;
                }
                boolean full = under == '#';
                boolean half = c >= '1' && c <= '4' && c == under;
                if (c != '.' && !full && !half) {
                    return false;
                }
            }
        }
        return true;
    }

    int fits(int cut, int rough, int x, int y) {
        if (!has(text.cuts, cut) || !has(text.roughs, rough) || x < 0 || x > 11 || y < 0 || y > 11) {
            return -1;
        }
        return fit(text.cuts.get(cut), text.roughs.get(rough), x, y, 0, 12) ? 1 : 0;
    }

    private List<int[]> allPlaces(int cut, int rough, int from, int to) {
        List<int[]> found = new ArrayList<>();
        for (int y = 0; y < 12; y++) {
            for (int x = 0; x < 12; x++) {
                if (fit(text.cuts.get(cut), text.roughs.get(rough), x, y, from, to)) {
                    found.add(new int[] {x, y});
                }
            }
        }
        return found;
    }

    int places(int cut, int rough) {
        return has(text.cuts, cut) && has(text.roughs, rough) ? allPlaces(cut, rough, 0, 12).size() : -1;
    }

    private boolean mayLay(int cuts, int rough, int stuff) {
        return cuts >= 0 && cuts < 1 << text.cuts.size() && has(text.roughs, rough) && has(text.stuffs, stuff);
    }

    int dearest(int cuts, int rough, int stuff) {
        if (!mayLay(cuts, rough, stuff)) {
            return -1;
        }
        laid = null;
        int best = -2;
        for (int c = 0; c < text.cuts.size(); c++) {
            if ((cuts & 1 << c) == 0) {
                continue;
            }
            int price = priceOf(light(c, stuff, 0, 1000, 0, 0, 1, 0));
            for (int[] p : allPlaces(c, rough, 0, 12)) {
                if (price > best) {
                    best = price;
                    laid = new int[] {-1, c, p[0], p[1], -1, -1, -1};
                }
            }
        }
        return best;
    }

    int two(int cuts, int rough, int stuff) {
        if (!mayLay(cuts, rough, stuff)) {
            return -1;
        }
        laid = null;
        int best = -2;
        int wide = text.roughs.get(rough).get(0).length();
        int[] price = new int[6];
        for (int c = 0; c < text.cuts.size(); c++) {
            price[c] = priceOf(light(c, stuff, 0, 1000, 0, 0, 1, 0));
        }
        for (int k = 1; k < wide; k++) {
            for (int l = 0; l < 6; l++) {
                for (int r = 0; r < 6; r++) {
                    if ((cuts & 1 << l) == 0 || (cuts & 1 << r) == 0) {
                        continue;
                    }
                    List<int[]> ls = allPlaces(l, rough, 0, k);
                    List<int[]> rs = allPlaces(r, rough, k, 12);
                    if (!ls.isEmpty() && !rs.isEmpty() && price[l] + price[r] > best) {
                        best = price[l] + price[r];
                        laid = new int[] {k, l, ls.get(0)[0], ls.get(0)[1], r, rs.get(0)[0], rs.get(0)[1]};
                    }
                }
            }
        }
        return best;
    }

    int laid(int what) {
        return laid == null || what < 0 || what > 6 ? -1 : laid[what];
    }

    // ---- tests: {0, cut, colour, bright} or {1, test}

    int test(int cut, int colour, int bright) {
        if (tests.size() >= 60 || !has(text.cuts, cut) || colour < 0 || colour > 3 || bright < 0 || bright > 100000) {
            return -1;
        }
        tests.add(new int[] {0, cut, colour, bright});
        return tests.size() - 1;
    }

    int annul(int test) {
        if (tests.size() >= 60 || !has(tests, test) || tests.get(test)[0] == 1) {
            return -1;
        }
        tests.add(new int[] {1, test});
        return tests.size() - 1;
    }

    int bright(int cut, int stuff, int colour) {
        return known(cut, stuff, colour) ? (int) light(cut, stuff, colour, 1000, 0, 0, 1, 0).bright : -1;
    }

    int barred(int stuff, int n) {
        if (!has(text.stuffs, stuff) || n < 0 || n > tests.size()) {
            return -1;
        }
        List<int[]> known = tests.subList(0, n);
        Set<Integer> voids = new HashSet<>();
        for (int[] t : known) {
            if (t[0] == 1) {
                voids.add(t[1]);
            }
        }
        for (int i = 0; i < n; i++) {
            int[] t = known.get(i);
            if (t[0] == 0 && !voids.contains(i)) {
                int own = bright(t[1], stuff, t[2]);
                if (Math.abs(own - t[3]) > t[3] / 20 + 5) {
                    return i;
                }
            }
        }
        return -2;
    }

    int left(int n) {
        if (n < 0 || n > tests.size()) {
            return -1;
        }
        int bits = 0;
        for (int s = 0; s < text.stuffs.size(); s++) {
            bits |= barred(s, n) == -2 ? 1 << s : 0;
        }
        return bits;
    }

    int next(int n) {
        int open = left(n);
        if (open == -1) {
            return -1;
        }
        if (Integer.bitCount(open) < 2 || text.cuts.isEmpty()) {
            return -2;
        }
        int best = -1;
        int widest = -1;
        for (int cc = 0; cc < 4 * text.cuts.size(); cc++) {
            List<Integer> all = new ArrayList<>();
            for (int s = 0; s < 4; s++) {
                if ((open & 1 << s) != 0) {
                    all.add(bright(cc / 4, s, cc % 4));
                }
            }
            int apart = java.util.Collections.max(all) - java.util.Collections.min(all);
            if (apart > widest) {
                widest = apart;
                best = cc;
            }
        }
        return best;
    }

    int count(int what) {
        int[] plain = {text.stuffs.size(), text.cuts.size(), text.roughs.size(), text.grades.size(),
            text.prices.size(), tests.size(), tape.length()};
        if (what >= 0 && what <= 6) {
            return plain[what];
        }
        if (what >= 10 && what < 30 && has(text.cuts, what % 10)) {
            List<String> rows = text.cuts.get(what % 10);
            return what < 20 ? rows.get(0).length() : rows.size();
        }
        if (what >= 30 && what < 50 && has(text.roughs, what % 10)) {
            List<String> rows = text.roughs.get(what % 10);
            return what < 40 ? rows.get(0).length() : rows.size();
        }
        return -1;
    }

    static byte[] bytesOf(String text) {
        return text.getBytes(StandardCharsets.ISO_8859_1);
    }
}
