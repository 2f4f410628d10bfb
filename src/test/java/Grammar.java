import java.util.ArrayList;
import java.util.HashMap;
import java.util.LinkedHashSet;
import java.util.List;
import java.util.Map;
import java.util.Objects;
import java.util.Set;

/** The document's grammar as written there, and a general recogniser (Earley's) that tells which tokens go on. */
final class Grammar {
    private static final String[] RULES = {
        "TEXT =", "TEXT = TEXT TELL",
        "TELL = stuff NAME : SHARES EATEN ;", "TELL = cut NAME ROWS ;", "TELL = rough NAME ROWS ;",
        "TELL = grade NAME if COND ;", "TELL = price NAME E WHEN ;",
        "SHARES = SHARE", "SHARES = SHARES , SHARE", "SHARE = INT INT",
        "EATEN =", "EATEN = eats INT", "ROWS = ROW", "ROWS = ROWS ROW", "WHEN =", "WHEN = if COND",
        "COND = ALL", "COND = COND or ALL", "ALL = LIT", "ALL = ALL and LIT",
        "LIT = not LIT", "LIT = E == E", "LIT = E != E", "LIT = E < E", "LIT = E <= E",
        "E = PART", "E = E + PART", "E = E - PART",
        "PART = UNIT", "PART = PART * UNIT", "PART = PART / UNIT",
        "UNIT = INT", "UNIT = VAR", "UNIT = ( E )",
        "VAR = bright", "VAR = leak", "VAR = dark", "VAR = weight", "VAR = uneven", "VAR = flaws",
        "VAR = wide", "VAR = colour",
    };

    private static final class Item {
        final String head;
        final String[] body;
        final int dot;
        final int from;

        Item(String head, String[] body, int dot, int from) {
            this.head = head;
            this.body = body;
            this.dot = dot;
            this.from = from;
        }

        @Override public boolean equals(Object o) {
            Item i = (Item) o;
            return body == i.body && dot == i.dot && from == i.from && head.equals(i.head);
        }

        @Override public int hashCode() {
            return Objects.hash(System.identityHashCode(body), dot, from);
        }
    }

    private final Map<String, List<String[]>> rules = new HashMap<>();
    private final List<List<Item>> sets = new ArrayList<>();

    Grammar() {
        for (String rule : RULES) {
            String[] parts = rule.split(" *= ?", 2);
            String[] body = parts[1].isEmpty() ? new String[0] : parts[1].split(" ");
            rules.computeIfAbsent(parts[0], k -> new ArrayList<>()).add(body);
        }
        Set<Item> start = new LinkedHashSet<>();
        for (String[] body : rules.get("TEXT")) {
            start.add(new Item("TEXT", body, 0, 0));
        }
        sets.add(close(start, 0));
    }

    private List<Item> close(Set<Item> seed, int at) {
        List<Item> items = new ArrayList<>(seed);
        Set<Item> known = new LinkedHashSet<>(seed);
        for (int i = 0; i < items.size(); i++) {
            Item item = items.get(i);
            List<Item> more = new ArrayList<>();
            if (item.dot == item.body.length) {
                for (Item waiting : item.from == at ? new ArrayList<>(items) : sets.get(item.from)) {
                    if (waiting.dot < waiting.body.length && waiting.body[waiting.dot].equals(item.head)) {
                        more.add(new Item(waiting.head, waiting.body, waiting.dot + 1, waiting.from));
                    }
                }
            } else if (rules.containsKey(item.body[item.dot])) {
                for (String[] body : rules.get(item.body[item.dot])) {
                    more.add(new Item(item.body[item.dot], body, 0, at));
                    if (body.length == 0) {
                        more.add(new Item(item.head, item.body, item.dot + 1, item.from));
                    }
                }
            }
            for (Item m : more) {
                if (known.add(m)) {
                    items.add(m);
                }
            }
        }
        return items;
    }

    /** Goes on with a token (a sign, a word, NAME, INT or ROW), if a text can; else nothing happens. */
    boolean goOn(String token) {
        Set<Item> next = new LinkedHashSet<>();
        for (Item item : sets.get(sets.size() - 1)) {
            if (item.dot < item.body.length && item.body[item.dot].equals(token)) {
                next.add(new Item(item.head, item.body, item.dot + 1, item.from));
            }
        }
        if (next.isEmpty()) {
            return false;
        }
        sets.add(close(next, sets.size()));
        return true;
    }

    boolean mayEnd() {
        for (Item item : sets.get(sets.size() - 1)) {
            if (item.head.equals("TEXT") && item.from == 0 && item.dot == item.body.length) {
                return true;
            }
        }
        return false;
    }
}
