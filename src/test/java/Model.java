import java.util.ArrayList;
import java.util.HashMap;
import java.util.HashSet;
import java.util.List;
import java.util.Map;
import java.util.Set;
import java.util.TreeMap;
import java.util.TreeSet;

/**
 * The document once more, in the plainest words that the Java library has, to compare the program
 * with: a parser that calls itself, ways that are walked one by one, edits that are texts.
 */
final class Model {
    private record Pattern(int op, int f, int x, int y) {
        boolean named(int unknown) {
            return x == unknown || op == 1 && y == unknown;
        }
    }

    private static final class Item {
        Pattern pattern;
        boolean out;
        boolean dots;
        Pattern forbidden;
        final List<Pattern> added = new ArrayList<>();
    }

    private static final class Node {
        int op;
        int f;
        int x;
        int y;
        int begin;
        int end;
        List<Integer> edges = new ArrayList<>();
    }

    private record Statement(int node, char sign, List<Statement> first, List<Statement> second) {
    }

    private static final class Malformed extends RuntimeException {
        private static final long serialVersionUID = 1L;
    }

    private String text = "";
    private final List<Item> items = new ArrayList<>();

    private String tokens;
    private List<Integer> places;
    private int next;
    private List<Node> nodes;
    private final Map<String, Boolean> taken = new HashMap<>();

    boolean type(char c) {
        if (text.length() == 160 || c < 32 || c > 126) {
            return false;
        }
        text += c;
        return true;
    }

    void clear() {
        text = "";
    }

    String text() {
        return text;
    }

    int nodes() {
        return parse() ? nodes.size() : -1;
    }

    int edge(int n, int k) {
        if (!parse() || n < 0 || n >= nodes.size() || k < 0 || k >= nodes.get(n).edges.size()) {
            return -1;
        }
        return nodes.get(n).edges.get(k);
    }

    int begins(int n) {
        return !parse() || n < 0 || n >= nodes.size() ? -1 : nodes.get(n).begin;
    }

    int item(boolean out, int op, int f, int x, int y) {
        if (op < 0 || op > 3 || !sound(op, f, x, y)) {
            return -1;
        }
        if (op == 3 && out) {
            return -2;
        }
        if (items.size() == 6) {
            return -3;
        }
        Item item = new Item();
        item.pattern = new Pattern(op, f, x, y);
        item.out = out;
        items.add(item);
        return items.size();
    }

    boolean dots(int op, int f, int x, int y) {
        if (items.isEmpty() || last().dots || op < -1 || op > 3) {
            return false;
        }
        if (op != -1 && (!sound(op, f, x, y) || !known(new Pattern(op, f, x, y)))) {
            return false;
        }
        last().dots = true;
        last().forbidden = op == -1 ? null : new Pattern(op, f, x, y);
        return true;
    }

    boolean plus(int op, int f, int x, int y) {
        if (items.isEmpty() || last().dots || last().pattern.op == 3 || last().added.size() == 2) {
            return false;
        }
        if (op < 0 || op > 2 || !sound(op, f, x, y) || !known(new Pattern(op, f, x, y))) {
            return false;
        }
        last().added.add(new Pattern(op, f, x, y));
        return true;
    }

    void forget() {
        items.clear();
    }

    /** The numbers of the matches in order; null if there is no program or no whole script. */
    List<Integer> matchList() {
        if (refusal() != 0) {
            return null;
        }
        taken.clear();
        List<Integer> found = new ArrayList<>();
        for (int number = 0; number < 64 * nodes.size(); number++) {
            if (allowed(number % 64) && takes(0, number / 64, number % 64)) {
                found.add(number);
            }
        }
        return found;
    }

    int refusal() {
        if (!parse()) {
            return -1;
        }
        return items.isEmpty() || last().dots ? -2 : 0;
    }

    /** All hits of all matches, each as node * 8 + item. */
    Set<Integer> hitSet() {
        Set<Integer> all = new TreeSet<>();
        List<Integer> found = matchList();
        if (found != null) {
            for (int number : found) {
                Set<Integer> own = new TreeSet<>();
                hitFrom(number / 64, 0, number % 64, own);
                all.addAll(own);
            }
        }
        return all;
    }

    int apply() {
        if (refusal() != 0) {
            return refusal();
        }
        Map<Integer, Set<String>> edits = new TreeMap<>();
        for (int number : matchList()) {
            Set<Integer> hits = new TreeSet<>();
            hitFrom(number / 64, 0, number % 64, hits);
            for (int hit : hits) {
                Item item = items.get(hit % 8);
                if (item.out || !item.added.isEmpty()) {
                    edits.computeIfAbsent(hit / 8, n -> new HashSet<>()).add(editOf(item, number % 64));
                }
            }
        }
        for (Set<String> own : edits.values()) {
            if (own.size() > 1) {
                return -3;
            }
        }
        return lay(edits);
    }

    private int lay(Map<Integer, Set<String>> edits) {
        StringBuilder changed = new StringBuilder(text);
        for (int n = nodes.size() - 1; n >= 0; n--) {
            if (edits.containsKey(n)) {
                String edit = edits.get(n).iterator().next();
                Node node = nodes.get(n);
                changed.insert(node.end + 1, edit.substring(1));
                if (edit.charAt(0) == '-') {
                    changed.delete(node.begin, node.end + 1);
                }
            }
        }
        if (changed.length() > 160) {
            return -4;
        }
        String before = text;
        text = changed.toString();
        if (!parse()) {
            text = before;
            return -5;
        }
        return edits.size();
    }

    private static String editOf(Item item, int binding) {
        StringBuilder edit = new StringBuilder(item.out ? "-" : "+");
        for (Pattern p : item.added) {
            char x = "abcd".charAt(bound(p.x, binding));
            switch (p.op) {
                case 0 -> edit.append("fgh".charAt(p.f)).append('(').append(x).append(");");
                case 1 -> edit.append(x).append('=').append("abcd".charAt(bound(p.y, binding))).append(';');
                default -> edit.append('!').append(x).append(';');
            }
        }
        return edit.toString();
    }

    private Item last() {
        return items.get(items.size() - 1);
    }

    private static boolean sound(int op, int f, int x, int y) {
        boolean goodF = op != 0 || f >= 0 && f <= 2;
        return goodF && x >= 0 && x <= 6 && (op != 1 || y >= 0 && y <= 6);
    }

    private boolean named(int unknown) {
        for (Item item : items) {
            if (item.pattern.named(unknown)) {
                return true;
            }
        }
        return false;
    }

    private boolean known(Pattern pattern) {
        for (int unknown = 4; unknown <= 6; unknown++) {
            if (pattern.named(unknown) && !named(unknown)) {
                return false;
            }
        }
        return true;
    }

    private boolean allowed(int binding) {
        for (int unknown = 4; unknown <= 6; unknown++) {
            if (!named(unknown) && bound(unknown, binding) != 0) {
                return false;
            }
        }
        return true;
    }

    private static int bound(int operand, int binding) {
        return switch (operand) {
            case 4 -> binding % 4;
            case 5 -> binding / 4 % 4;
            case 6 -> binding / 16;
            default -> operand;
        };
    }

    private boolean like(Pattern p, int n, int binding) {
        Node node = nodes.get(n);
        if (p == null || node.op != p.op || node.x != bound(p.x, binding)) {
            return false;
        }
        return switch (p.op) {
            case 0 -> node.f == p.f;
            case 1 -> node.y == bound(p.y, binding);
            default -> true;
        };
    }

    private boolean takes(int k, int n, int binding) {
        String key = k + " " + n + " " + binding;
        Boolean before = taken.get(key);
        if (before == null) {
            before = takesAnew(k, n, binding);
            taken.put(key, before);
        }
        return before;
    }

    private boolean takesAnew(int k, int n, int binding) {
        Item item = items.get(k);
        if (n == nodes.size() || !like(item.pattern, n, binding)) {
            return false;
        }
        if (k == items.size() - 1) {
            return true;
        }
        if (item.dots) {
            return !badWay(k, n, binding, new HashSet<>());
        }
        for (int successor : nodes.get(n).edges) {
            if (!takes(k + 1, successor, binding)) {
                return false;
            }
        }
        return true;
    }

    private boolean badWay(int k, int n, int binding, Set<Integer> walked) {
        for (int successor : nodes.get(n).edges) {
            if (successor == nodes.size()) {
                return true;
            }
            if (!takes(k + 1, successor, binding) && walked.add(successor)) {
                if (like(items.get(k).forbidden, successor, binding)
                        || badWay(k, successor, binding, walked)) {
                    return true;
                }
            }
        }
        return false;
    }

    private void hitFrom(int n, int k, int binding, Set<Integer> all) {
        if (!all.add(n * 8 + k) || k == items.size() - 1) {
            return;
        }
        Set<Integer> ends = new HashSet<>();
        if (items.get(k).dots) {
            walk(n, k, binding, new HashSet<>(), ends);
        } else {
            ends.addAll(nodes.get(n).edges);
        }
        for (int end : ends) {
            hitFrom(end, k + 1, binding, all);
        }
    }

    private void walk(int n, int k, int binding, Set<Integer> walked, Set<Integer> ends) {
        for (int successor : nodes.get(n).edges) {
            if (successor < nodes.size() && walked.add(successor)) {
                if (takes(k + 1, successor, binding)) {
                    ends.add(successor);
                } else {
                    walk(successor, k, binding, walked, ends);
                }
            }
        }
    }

    private boolean parse() {
        StringBuilder signs = new StringBuilder();
        places = new ArrayList<>();
        int i = 0;
        while (i < text.length()) {
            char c = text.charAt(i);
            if (c == '#') {
                i = text.indexOf('#', i + 1);
                if (i < 0) {
                    return false;
                }
            } else if (c != ' ') {
                signs.append(c);
                places.add(i);
            }
            i++;
        }
        tokens = signs.toString();
        next = 0;
        nodes = new ArrayList<>();
        try {
            List<Statement> row = row(0);
            if (next < tokens.length() || nodes.size() > 24) {
                return false;
            }
            lead(row, nodes.size());
            return true;
        } catch (Malformed bad) {
            return false;
        }
    }

    private List<Statement> row(int depth) {
        if (depth > 6) {
            throw new Malformed();
        }
        List<Statement> row = new ArrayList<>();
        while (next < tokens.length() && tokens.charAt(next) != '}') {
            row.add(statement(depth));
        }
        return row;
    }

    private Statement statement(int depth) {
        Node node = new Node();
        int number = nodes.size();
        nodes.add(node);
        node.begin = places.get(next);
        char sign = take("abcdfgh!?*");
        List<Statement> first = null;
        List<Statement> second = null;
        if (sign == '?' || sign == '*') {
            node.op = 3;
            node.x = variable();
            node.end = places.get(next - 1);
            first = block(depth);
            if (sign == '?' && next < tokens.length() && tokens.charAt(next) == ':') {
                take(":");
                second = block(depth);
            }
            return new Statement(number, sign, first, second);
        }
        if (sign == '!') {
            node.op = 2;
            node.x = variable();
        } else if ("fgh".indexOf(sign) >= 0) {
            node.op = 0;
            node.f = "fgh".indexOf(sign);
            take("(");
            node.x = variable();
            take(")");
        } else {
            node.op = 1;
            node.x = "abcd".indexOf(sign);
            take("=");
            node.y = variable();
        }
        take(";");
        node.end = places.get(next - 1);
        return new Statement(number, sign, null, null);
    }

    private List<Statement> block(int depth) {
        take("{");
        List<Statement> row = row(depth + 1);
        take("}");
        return row;
    }

    private int variable() {
        return "abcd".indexOf(take("abcd"));
    }

    private char take(String wanted) {
        if (next >= tokens.length() || wanted.indexOf(tokens.charAt(next)) < 0) {
            throw new Malformed();
        }
        next++;
        return tokens.charAt(next - 1);
    }

    private void lead(List<Statement> row, int afterRow) {
        for (int i = 0; i < row.size(); i++) {
            Statement s = row.get(i);
            int after = i + 1 < row.size() ? row.get(i + 1).node : afterRow;
            List<Integer> edges = nodes.get(s.node).edges;
            switch (s.sign) {
                case '*' -> {
                    edges.add(s.first.isEmpty() ? s.node : s.first.get(0).node);
                    edges.add(after);
                    lead(s.first, s.node);
                }
                case '?' -> {
                    edges.add(s.first.isEmpty() ? after : s.first.get(0).node);
                    boolean none = s.second == null || s.second.isEmpty();
                    edges.add(none ? after : s.second.get(0).node);
                    lead(s.first, after);
                    if (!none) {
                        lead(s.second, after);
                    }
                }
                case '!' -> edges.add(nodes.size());
                default -> edges.add(after);
            }
        }
    }
}
