import java.util.function.Consumer;
import java.util.function.ToLongFunction;

/**
 * "A call that is refused (false, or a negative number) changes nothing. Refusals hold in the order
 * in which they are listed."
 */
public final class RefusalTest {
    private static final String FULL = "?a{}:{}".repeat(20) + "f(a);".repeat(4);

    public static void main(String[] args) {
        refusedType();
        refusedAt();
        refusedFlow();
        refusedItem();
        refusedDots();
        refusedPlus();
        refusedSearch();
        refusedApply();
        orderOfItem();
        orderOfMatches();
        orderOfApply();
        Check.end();
    }

    private static void type(PathPatcher patcher, String text) {
        for (char c : text.toCharArray()) {
            patcher.type(c);
        }
    }

    /** An object with a text and with f(X), to be followed by h(a); and by dots that forbid h(X). */
    private static Consumer<PathPatcher> script(String text, boolean out, boolean added, boolean dots) {
        return patcher -> {
            type(patcher, text);
            patcher.item(out, 0, 0, 4, 0);
            if (added) {
                patcher.plus(0, 2, 0, 0);
            }
            if (dots) {
                patcher.dots(0, 2, 4, 0);
            }
        };
    }

    private static Consumer<PathPatcher> text(String text) {
        return patcher -> type(patcher, text);
    }

    /** Each refusal is tried on objects in every state in which it is due. */
    private static void everywhere(String what, ToLongFunction<PathPatcher> call, long due) {
        Twins.refused(what, text(""), call, due);
        Twins.refused(what, text("f(a);g(a);"), call, due);
        Twins.refused(what, text("f(a);g(a)"), call, due);
        withItem(what, call, due);
        Twins.refused(what, script("f(a);h(a);g(a);", false, true, true), call, due);
    }

    private static void withItem(String what, ToLongFunction<PathPatcher> call, long due) {
        Twins.refused(what, script("", false, false, false), call, due);
        Twins.refused(what, script("f(a);f(b);g(a);", false, false, false), call, due);
        Twins.refused(what, script("f(a);g(a);", true, true, false), call, due);
        Twins.refused(what, script("f(a);g(", true, true, false), call, due);
        Twins.refused(what, script(FULL, true, true, false), call, due);
        Twins.refused(what, script(FULL, false, true, false), call, due);
    }

    private static long of(boolean answer) {
        return answer ? 1 : 0;
    }

    private static void refusedType() {
        int[] codes = {0, 31, 127, 255, 256 + 'a', 65535};
        for (int code : codes) {
            everywhere("type " + code, p -> of(p.type((char) code)), 0);
        }
        char[] good = {' ', '!', ';', '#', '}', '~'};
        for (char c : good) {
            Twins.refused("type when 160 are there", text(FULL), p -> of(p.type(c)), 0);
            Twins.refused("type when 160 are there", script(FULL, true, true, false), p -> of(p.type(c)), 0);
            Twins.refused("type when 160 are there", text("#".repeat(160)), p -> of(p.type(c)), 0);
        }
    }

    private static void refusedAt() {
        int[] places = {Integer.MIN_VALUE, -1, 160, Integer.MAX_VALUE};
        for (int i : places) {
            everywhere("at " + i, p -> p.at(i), -1);
        }
    }

    private static void refusedFlow() {
        Twins.refused("nodes", text("f(a)"), PathPatcher::nodes, -1);
        Twins.refused("nodes", script("f(a);#", true, true, false), PathPatcher::nodes, -1);
        Twins.refused("nodes", text("!a;".repeat(25)), PathPatcher::nodes, -1);
        Twins.refused("edge", text("f(a)"), p -> p.edge(0, 0), -1);
        Twins.refused("begins", text("f(a)"), p -> p.begins(0), -1);
        int[] none = {Integer.MIN_VALUE, -1, 24, 32, Integer.MAX_VALUE};
        for (int n : none) {
            everywhere("edge of " + n, p -> p.edge(n, 0), -1);
            everywhere("edge " + n, p -> p.edge(0, n), -1);
            everywhere("begins of " + n, p -> p.begins(n), -1);
        }
    }

    private static void refusedItem() {
        int[][] wrong = {
            {-1, 0, 5, 6}, {4, 0, 5, 6}, {0, -1, 5, 6}, {0, 3, 5, 6}, {0, 0, -1, 6}, {0, 0, 7, 6},
            {1, 0, 7, 6}, {1, 0, 5, -1}, {1, 0, 5, 7}, {2, 0, -1, 6}, {3, 0, 7, 6}};
        for (int[] w : wrong) {
            everywhere("item " + w[0], p -> p.item(true, w[0], w[1], w[2], w[3]), -1);
            everywhere("item " + w[0], p -> p.item(false, w[0], w[1], w[2], w[3]), -1);
        }
        everywhere("a test to be taken out", p -> p.item(true, 3, 0, 5, 0), -2);
        for (int dotted = 0; dotted <= 1; dotted++) {
            Consumer<PathPatcher> six = sixItems(dotted == 1);
            Twins.refused("a seventh item", six, p -> p.item(true, 1, 0, 5, 6), -3);
            Twins.refused("a seventh item", six, p -> p.item(false, 3, 0, 5, 6), -3);
            Twins.refused("a seventh item to be taken out", six, p -> p.item(true, 3, 0, 5, 6), -2);
            Twins.refused("a seventh item of no kind", six, p -> p.item(true, 4, 0, 5, 6), -1);
        }
    }

    private static Consumer<PathPatcher> sixItems(boolean dots) {
        return patcher -> {
            type(patcher, "f(a);?a{}?a{}?a{}?a{}!a;");
            patcher.item(false, 0, 0, 4, 0);
            for (int i = 0; i < 4; i++) {
                patcher.item(false, 3, 0, 0, 0);
            }
            patcher.item(true, 2, 0, 4, 0);
            patcher.plus(2, 0, 1, 0);
            if (dots) {
                patcher.dots(-1, 0, 0, 0);
            }
        };
    }

    private static void refusedDots() {
        for (int op = -1; op <= 3; op++) {
            int kind = op;
            Twins.refused("dots without an item", text("f(a);"), p -> of(p.dots(kind, 0, 0, 0)), 0);
            Twins.refused("dots behind dots", script("f(a);?a{}h(b);g(a);", false, true, true),
                p -> of(p.dots(kind, 0, 0, 0)), 0);
            Twins.refused("dots behind the sixth's dots", sixItems(true), p -> of(p.dots(kind, 0, 0, 0)), 0);
        }
        int[][] wrong = {
            {-2, 0, 0, 0}, {4, 0, 0, 0}, {0, -1, 0, 0}, {0, 3, 0, 0}, {0, 0, -1, 0}, {0, 0, 7, 0}, {1, 0, 7, 0},
            {1, 0, 0, -1}, {1, 0, 0, 7}, {2, 0, 7, 0}, {3, 0, -1, 0}, {0, 0, 5, 0}, {1, 0, 6, 0}, {1, 0, 0, 5},
            {1, 0, 4, 6}, {2, 0, 5, 0}, {3, 0, 6, 0}};
        for (int[] w : wrong) {
            withItem("dots " + w[0], p -> of(p.dots(w[0], w[1], w[2], w[3])), 0);
        }
    }

    private static void refusedPlus() {
        for (int op = 0; op <= 2; op++) {
            int kind = op;
            Twins.refused("plus without an item", text("f(a);"), p -> of(p.plus(kind, 0, 0, 0)), 0);
            Twins.refused("plus behind dots", script("f(a);g(a);", false, true, true),
                p -> of(p.plus(kind, 0, 0, 0)), 0);
            Twins.refused("plus for a test", RefusalTest::endInATest, p -> of(p.plus(kind, 0, 0, 0)), 0);
            Twins.refused("plus for an item that has two", RefusalTest::endInTwoNew,
                p -> of(p.plus(kind, 0, 0, 0)), 0);
        }
        int[][] wrong = {
            {-1, 0, 0, 0}, {3, 0, 0, 0}, {4, 0, 0, 0}, {0, -1, 0, 0}, {0, 3, 0, 0}, {0, 0, -1, 0}, {0, 0, 7, 0},
            {1, 0, 7, 0}, {1, 0, 0, -1}, {1, 0, 0, 7}, {2, 0, 7, 0}, {0, 0, 5, 0}, {1, 0, 6, 0}, {1, 0, 0, 5},
            {1, 0, 4, 6}, {2, 0, 5, 0}};
        for (int[] w : wrong) {
            withItem("plus " + w[0], p -> of(p.plus(w[0], w[1], w[2], w[3])), 0);
        }
    }

    private static void endInATest(PathPatcher patcher) {
        type(patcher, "f(a);?a{}g(a);");
        patcher.item(false, 0, 0, 4, 0);
        patcher.item(false, 3, 0, 4, 0);
    }

    private static void endInTwoNew(PathPatcher patcher) {
        type(patcher, "f(a);g(a);");
        patcher.item(true, 0, 0, 4, 0);
        patcher.plus(0, 2, 4, 0);
        patcher.plus(0, 1, 3, 0);
    }

    private static void refusedSearch() {
        Consumer<PathPatcher> noProgram = script("f(a);g(", true, true, false);
        Twins.refused("matches", noProgram, PathPatcher::matches, -1);
        Twins.refused("match", noProgram, p -> p.match(0), -1);
        Twins.refused("hit", noProgram, p -> of(p.hit(0, 0)), 0);
        Consumer<PathPatcher> noItem = text("f(a);g(a);");
        Twins.refused("matches", noItem, PathPatcher::matches, -2);
        Twins.refused("match", noItem, p -> p.match(0), -1);
        Twins.refused("hit", noItem, p -> of(p.hit(0, 0)), 0);
        Consumer<PathPatcher> endInDots = script("f(a);g(a);", false, true, true);
        Twins.refused("matches", endInDots, PathPatcher::matches, -2);
        Twins.refused("match", endInDots, p -> p.match(0), -1);
        Twins.refused("hit", endInDots, p -> of(p.hit(0, 0)), 0);
        int[] none = {Integer.MIN_VALUE, -1, 24, 32, Integer.MAX_VALUE};
        for (int i : none) {
            everywhere("match " + i, p -> p.match(i), -1);
            everywhere("hit of node " + i, p -> of(p.hit(i, 0)), 0);
            everywhere("hit of item " + i, p -> of(p.hit(0, i)), 0);
        }
    }

    private static void refusedApply() {
        Twins.refused("apply", script("f(a);g(", true, true, false), PathPatcher::apply, -1);
        Twins.refused("apply", script("f(a);#", true, true, false), PathPatcher::apply, -1);
        Twins.refused("apply", text("f(a);g(a);"), PathPatcher::apply, -2);
        Twins.refused("apply", script("f(a);g(a);", true, true, true), PathPatcher::apply, -2);
        Twins.refused("apply", RefusalTest::conflict, PathPatcher::apply, -3);
        Twins.refused("apply", script("f(a);" + " ".repeat(151), false, true, false), PathPatcher::apply, -4);
        Twins.refused("apply", script(FULL, false, true, false), PathPatcher::apply, -4);
        Twins.refused("apply", script("f(a);" + "!a;".repeat(23), false, true, false), PathPatcher::apply, -5);
    }

    private static void conflict(PathPatcher patcher) {
        type(patcher, "f(a);f(b);g(c);f(d);");
        twoBindings(patcher);
    }

    /** Two calls of f that come to the same g(Y) want other texts behind it. */
    private static void twoBindings(PathPatcher patcher) {
        patcher.item(true, 0, 0, 4, 0);
        patcher.plus(0, 0, 4, 0);
        patcher.dots(-1, 0, 0, 0);
        patcher.item(false, 0, 1, 5, 0);
        patcher.plus(0, 2, 4, 0);
    }

    // Promise 9: -1, then -2, then -3
    private static void orderOfItem() {
        PathPatcher patcher = new PathPatcher();
        Check.same("-1 before -2", patcher.item(true, 3, 0, 7, 0), -1);
        Check.same("-2", patcher.item(true, 3, 0, 6, 0), -2);
        for (int i = 1; i <= 6; i++) {
            Check.same("item", patcher.item(true, 2, 0, 0, 0), i);
        }
        int[][] wrong = {{-1, 0, 0, 0}, {4, 0, 0, 0}, {0, 3, 0, 0}, {0, 0, 7, 0}, {1, 0, 0, 7}, {2, 0, -1, 0}};
        for (int[] w : wrong) {
            Check.same("-1 before -3", patcher.item(false, w[0], w[1], w[2], w[3]), -1);
        }
        Check.same("-1 before -2 and -3", patcher.item(true, 3, 0, -1, 0), -1);
        Check.same("-2 before -3", patcher.item(true, 3, 0, 0, 0), -2);
        Check.same("-3", patcher.item(false, 3, 0, 0, 0), -3);
    }

    // Promise 13: -1, then -2
    private static void orderOfMatches() {
        PathPatcher patcher = Check.typed("f(a)");
        Check.same("-1 before -2, no item", patcher.matches(), -1);
        patcher.item(false, 0, 0, 0, 0);
        patcher.dots(-1, 0, 0, 0);
        Check.same("-1 before -2, dots", patcher.matches(), -1);
        patcher.type(';');
        Check.same("-2, dots", patcher.matches(), -2);
        patcher.forget();
        Check.same("-2, no item", patcher.matches(), -2);
    }

    // Promise 16: -1, then -2, then -3, then -4, then -5
    private static void orderOfApply() {
        PathPatcher early = Check.typed("f(a)");
        Check.same("-1 before -2, no item", early.apply(), -1);
        early.item(false, 0, 0, 0, 0);
        early.dots(-1, 0, 0, 0);
        Check.same("-1 before -2, dots", early.apply(), -1);
        early.type(';');
        Check.same("-2, dots", early.apply(), -2);
        Check.same("-3 alone", with("f(a);f(b);g(c);", 0).apply(), -3);
        Check.same("-3 before -4", with("f(a);f(b);g(c);", 145).apply(), -3);
        Check.same("-3 before -5", with("f(a);f(b);g(c);" + "!a;".repeat(21), 0).apply(), -3);
        Check.same("-3 before -4 and -5", with("f(a);f(b);g(c);" + "!a;".repeat(21), 82).apply(), -3);
        Check.same("-4 alone", with("f(a);f(a);g(c);", 145).apply(), -4);
        Check.same("-4 before -5", with("f(a);f(a);g(c);" + "!a;".repeat(21), 82).apply(), -4);
        Check.same("-5 alone", with("f(a);f(a);g(c);" + "!a;".repeat(21), 77).apply(), -5);
        Check.same("neither", with("f(a);f(a);g(c);" + "!a;".repeat(20), 80).apply(), 3);
        PathPatcher dots = with("f(a);f(b);g(c);" + "!a;".repeat(21), 82);
        dots.dots(-1, 0, 0, 0);
        Check.same("-2 before all that follow", dots.apply(), -2);
        PathPatcher broken = with("f(a);f(b);g(c);" + "!a;".repeat(21), 80);
        broken.dots(-1, 0, 0, 0);
        broken.type('#');
        Check.same("-1 before all", broken.apply(), -1);
    }

    private static PathPatcher with(String text, int spaces) {
        PathPatcher patcher = Check.typed(text + " ".repeat(spaces));
        twoBindings(patcher);
        return patcher;
    }
}
