import java.util.ArrayList;
import java.util.HashMap;
import java.util.LinkedHashSet;
import java.util.List;
import java.util.Map;
import java.util.Set;

/**
 * Finds error 1 without a parser of its own: an Earley recogniser over the document's grammar, in
 * which the depth is part of the rules' names. It tells the first token with which no rule goes on.
 */
final class Recogniser {
    private static final int MOST_DEPTH = 8;

    /** A rule and how far it has been read, and at which token it began. */
    private record Item(String name, List<String> parts, int dot, int origin) {
        String next() {
            return dot < parts.size() ? parts.get(dot) : null;
        }

        Item moved() {
            return new Item(name, parts, dot + 1, origin);
        }
    }

    private final Map<String, List<List<String>>> rules = new HashMap<>();

    Recogniser() {
        rule("Game", "Head Lines");
        rule("Head", "", "pond number by number ;");
        rule("Lines", "", "Lines Line ;");
        rule("Line", "stone Player number , number", "plan Player Move", "plan Player Move when Test0");
        rule("Player", "red", "blue");
        rule("Move", "win", "guard", "save", "near", "at Sum0 , Sum0");
        rule("Relation", "<", ">", "=", "<=", ">=");
        for (int depth = 0; depth <= MOST_DEPTH; depth++) {
            rulesAt(depth);
        }
    }

    private void rulesAt(int depth) {
        rule("Test" + depth, "Both" + depth, "Test" + depth + " or Both" + depth);
        rule("Both" + depth, "Single" + depth, "Both" + depth + " and Single" + depth);
        rule("Sum" + depth, "Product" + depth, "Sum" + depth + " + Product" + depth,
                "Sum" + depth + " - Product" + depth);
        rule("Product" + depth, "Value" + depth, "Product" + depth + " * Value" + depth,
                "Product" + depth + " / Value" + depth);
        rule("Single" + depth, "won Player", "Sum" + depth + " Relation Sum" + depth);
        rule("Value" + depth, "number", "turn", "free", "stones Player", "bridges Player", "needs Player");
        if (depth < MOST_DEPTH) {
            int deeper = depth + 1;
            rule("Single" + depth, "not Single" + deeper, "[ Test" + deeper + " ]");
            rule("Value" + depth, "- Value" + deeper, "( Sum" + deeper + " )",
                    "min ( Sum" + deeper + " , Sum" + deeper + " )",
                    "max ( Sum" + deeper + " , Sum" + deeper + " )");
        } else {
            // min itself is not too deep, but the ( behind it is; Nothing has no rule.
            rule("Nothing");
            rule("Value" + depth, "min Nothing", "max Nothing");
        }
    }

    private void rule(String name, String... bodies) {
        List<List<String>> all = rules.computeIfAbsent(name, n -> new ArrayList<>());
        for (String body : bodies) {
            all.add(body.isEmpty() ? List.of() : List.of(body.split(" ")));
        }
    }

    /** The index of the first wrong token; the number of tokens if it is their end; -1 if none. */
    int firstWrong(List<String> tokens) {
        List<Set<Item>> sets = new ArrayList<>();
        Set<Item> set = new LinkedHashSet<>();
        for (List<String> parts : rules.get("Game")) {
            set.add(new Item("Game", parts, 0, 0));
        }
        for (int at = 0; ; at++) {
            sets.add(close(set, sets, at));
            if (at == tokens.size()) {
                break;
            }
            Set<Item> next = new LinkedHashSet<>();
            for (Item item : sets.get(at)) {
                if (tokens.get(at).equals(item.next())) {
                    next.add(item.moved());
                }
            }
            if (next.isEmpty()) {
                return at;
            }
            set = next;
        }
        for (Item item : sets.get(tokens.size())) {
            if (item.name().equals("Game") && item.next() == null) {
                return -1;
            }
        }
        return tokens.size();
    }

    private Set<Item> close(Set<Item> kernel, List<Set<Item>> before, int at) {
        List<Item> work = new ArrayList<>(kernel);
        Set<Item> closed = new LinkedHashSet<>(kernel);
        for (int i = 0; i < work.size(); i++) {
            Item item = work.get(i);
            String next = item.next();
            if (next == null) {
                Set<Item> origin = item.origin() == at ? closed : before.get(item.origin());
                for (Item waiting : new ArrayList<>(origin)) {
                    if (item.name().equals(waiting.next()) && closed.add(waiting.moved())) {
                        work.add(waiting.moved());
                    }
                }
            } else if (rules.containsKey(next)) {
                for (List<String> parts : rules.get(next)) {
                    Item begun = new Item(next, parts, 0, at);
                    if (closed.add(begun)) {
                        work.add(begun);
                    }
                    // A rule that may be nothing is over as soon as it has begun.
                    if (parts.isEmpty() && closed.add(item.moved())) {
                        work.add(item.moved());
                    }
                }
            }
        }
        return closed;
    }
}
