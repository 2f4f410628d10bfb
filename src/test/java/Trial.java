import java.lang.reflect.Method;
import java.nio.charset.StandardCharsets;
import java.nio.file.Files;
import java.nio.file.Path;
import java.nio.file.Paths;
import java.util.ArrayList;
import java.util.Arrays;
import java.util.Comparator;
import java.util.List;

/** What the tests by hand have in common: texts for the tape, answers that are due, calls that are refused. */
abstract class Trial {
    static final int NONE = CutStones.NONE;
    static final int LOW = Integer.MIN_VALUE;
    static final int HIGH = Integer.MAX_VALUE;

    private static int wrong = 0;
    private static String test = "";

    interface Call {
        int on(CutStones x);
    }

    interface CallWith {
        int on(CutStones x, int v);
    }

    /** Runs each method that bears a Sentence, in the order of their names. */
    static void runSentences(Class<?> tests, String[] args) throws Exception {
        String document = document(args);
        Method[] methods = tests.getDeclaredMethods();
        Arrays.sort(methods, Comparator.comparing(Method::getName));
        int ran = 0;
        for (Method method : methods) {
            Sentence sentence = method.getAnnotation(Sentence.class);
            if (sentence != null) {
                begin(method.getName());
                for (String words : sentence.value()) {
                    due("the document has: " + words, document.isEmpty() || document.contains(words) ? 1 : 0, 1);
                }
                method.invoke(null);
                ran++;
            }
        }
        begin("");
        due("sentences were looked at", ran > 0 ? 1 : 0, 1);
        end(ran + " sentences hold");
    }

    /** The document beside the project, blanks made alike; empty where it cannot be found. */
    private static String document(String[] args) throws Exception {
        Path root = args.length > 0 ? Paths.get(args[0]).resolve("../../../..") : Paths.get(".");
        Path path = root.resolve("../shared/DOC.md").normalize();
        if (!Files.exists(path)) {
            return "";
        }
        return new String(Files.readAllBytes(path), StandardCharsets.UTF_8).replaceAll("\\s+", " ");
    }

    static void begin(String name) {
        test = name;
    }

    static void end(String praise) {
        System.out.println(wrong == 0 ? praise : wrong + " answers are not as due");
        if (wrong != 0) {
            System.exit(1);
        }
    }

    static void due(String call, int got, int want) {
        if (got != want) {
            wrong++;
            System.out.println(test + ": " + call + " answered " + got + ", due is " + want);
        }
    }

    static String times(int n, String part) {
        StringBuilder all = new StringBuilder();
        for (int i = 0; i < n; i++) {
            all.append(part);
        }
        return all.toString();
    }

    static void feedText(CutStones x, String text) {
        byte[] bytes = Arrays.copyOf(text.getBytes(StandardCharsets.ISO_8859_1), (text.length() + 19) / 20 * 20);
        for (int i = 0; i < bytes.length; i += 20) {
            int[] w = new int[5];
            for (int k = 0; k < 20; k++) {
                w[k / 4] = w[k / 4] << 8 | bytes[i + k] & 255;
            }
            x.feed(w[0], w[1], w[2], w[3], w[4]);
        }
        x.back(bytes.length - text.length());
    }

    static CutStones told(String text) {
        CutStones x = new CutStones();
        tell(x, text);
        return x;
    }

    static void tell(CutStones x, String text) {
        feedText(x, text);
        due("read of " + shortened(text), x.read(), 0);
    }

    /** The FAULT's place is marked by an @ that does not belong to the text; without it there is none. */
    static void fault(String marked, int want) {
        CutStones x = new CutStones();
        String text = marked.replace("@", "");
        feedText(x, text);
        due("bytes of " + shortened(marked), x.count(6), text.length());
        due("read of " + shortened(marked), x.read(), want);
        due("place of " + shortened(marked), x.place(), marked.indexOf('@'));
        due("bytes behind read of " + shortened(marked), x.count(6), 0);
    }

    static String shortened(String text) {
        return text.length() <= 160 ? text : text.substring(0, 80) + " .. " + text.substring(text.length() - 76);
    }

    static void sparks(CutStones x, int... want) {
        for (int i = 0; i < 7; i++) {
            due("spark(" + i + ")", x.spark(i), want[i]);
        }
    }

    static void sights(CutStones x, int... want) {
        for (int i = 0; i < 9; i++) {
            due("seen(" + i + ")", x.seen(i), want[i]);
        }
    }

    static void lying(CutStones x, int... want) {
        for (int i = 0; i < 7; i++) {
            due("laid(" + i + ")", x.laid(i), want[i]);
        }
    }

    static void nothingLies(CutStones x) {
        lying(x, NONE, NONE, NONE, NONE, NONE, NONE, NONE);
    }

    static final String BUSY = "stuff s: 500 100, 900 0 eats 300; stuff t: 1000 0; cut a '#; cut b '.#1 'x#.; rough r '#### '####;"
            + "rough q '#1 '.# '##; grade g if bright < 10; grade h if 0 < 1; price p weight * 10 if flaws == 0; price o 7;";

    /** Two of each kind are told, and something of all that can be remembered is; twenty bytes are on the tape. */
    static CutStones busy() {
        CutStones x = told(BUSY);
        x.ray(1, 0, 0, 0, 1, 1000);
        x.shine(1, 0, 1, 1000, 20, 30, 0, 0);
        x.two(3, 0, 0);
        x.test(0, 0, 166);
        x.test(1, 2, 50);
        x.annul(0);
        x.feed(0x20202020, 0x20202020, 0x20202020, 0x20202020, 0x20202020);
        return x;
    }

    /** What can be seen of an object but for its tape and the latest read's place, by some 80 calls. */
    static List<Integer> state(CutStones x) {
        List<Integer> all = new ArrayList<>();
        for (int i = 0; i <= 5; i++) {
            all.add(x.count(i));
        }
        for (int k = 0; k < 3; k++) {
            all.addAll(List.of(x.count(10 + k), x.count(20 + k), x.count(30 + k), x.count(40 + k)));
            all.addAll(List.of(x.weight(false, k), x.weight(true, k), x.cell(false, k, 0, 0), x.cell(true, k, 0, 0)));
            all.addAll(List.of(x.even(k), x.bright(k, 0, 0), x.places(k, 0), x.column(k), x.step(k)));
        }
        for (int i = 0; i <= 8; i++) {
            all.addAll(List.of(x.spark(i), x.seen(i), x.laid(i)));
        }
        int n = x.count(5);
        all.addAll(List.of(x.grade(), x.price(), x.barred(0, n), x.barred(1, n), x.left(n), x.next(n), x.step(299)));
        return all;
    }

    /** NONE, and nothing happens. */
    static void refused(String call, Call c) {
        refusedBy(busy(), call, c);
    }

    static void refusedBy(CutStones x, String call, Call c) {
        List<Integer> before = state(x);
        int place = x.place();
        int bytes = x.count(6);
        due(call, c.on(x), NONE);
        due("the same answers behind " + call, state(x).equals(before) ? 1 : 0, 1);
        due("place behind " + call, x.place(), place);
        due("bytes behind " + call, x.count(6), bytes);
    }

    /** A busy object's call answers at both ends of a range, and is refused one beyond each and far out. */
    static void range(String what, int low, int high, CallWith c) {
        for (int v : new int[] {low, high}) {
            due(what + " " + v + " is one", c.on(busy(), v) != NONE ? 1 : 0, 1);
        }
        for (int v : new int[] {low - 1, high + 1, LOW, HIGH}) {
            refused(what + " " + v, x -> c.on(x, v));
        }
    }
}
