/** Promises 9 to 12: item, dots, plus and forget. */
public final class ScriptTest {
    private static final int ANY = Integer.MIN_VALUE;

    public static void main(String[] args) {
        itemsAreCounted();
        itemsOfWrongPatterns();
        itemsInOrderOfRefusal();
        refusedItemsChangeNothing();
        dotsNeedAnItem();
        dotsOfWrongPatterns();
        dotsOfUnknownsNotNamed();
        dotsBehindTheSixthItem();
        plusNeedsAnItem();
        plusOfWrongStatements();
        plusOfUnknownsNotNamed();
        plusIsBounded();
        forgetEmptiesAll();
        Check.end();
    }

    private static void itemsAreCounted() {
        PathPatcher patcher = new PathPatcher();
        Check.same("call", patcher.item(true, 0, 2, 6, ANY), 1);
        Check.same("assignment", patcher.item(true, 1, ANY, 0, 6), 2);
        Check.same("return", patcher.item(true, 2, ANY, 3, ANY), 3);
        Check.same("test", patcher.item(false, 3, ANY, 5, ANY), 4);
        Check.same("kept call", patcher.item(false, 0, 0, 0, 7), 5);
        Check.same("kept return", patcher.item(false, 2, 3, 4, 7), 6);
    }

    private static void itemsOfWrongPatterns() {
        int[][] wrong = {
            {-1, 0, 0, 0}, {4, 0, 0, 0}, {ANY, 0, 0, 0}, {0, -1, 0, 0}, {0, 3, 0, 0}, {0, 0, -1, 0},
            {0, 0, 7, 0}, {1, 0, -1, 0}, {1, 0, 7, 0}, {1, 0, 0, -1}, {1, 0, 0, 7}, {2, 0, -1, 0},
            {2, 0, 7, 0}, {3, 0, -1, 0}, {3, 0, 7, 0}, {0, 0, ANY, 0}, {1, 0, 0, Integer.MAX_VALUE}};
        PathPatcher patcher = new PathPatcher();
        for (int[] p : wrong) {
            Check.same("item " + p[0], patcher.item(false, p[0], p[1], p[2], p[3]), -1);
            Check.same("item out " + p[0], patcher.item(true, p[0], p[1], p[2], p[3]), -1);
        }
        Check.same("first item", patcher.item(false, 0, 0, 0, 0), 1);
    }

    private static void itemsInOrderOfRefusal() {
        PathPatcher patcher = new PathPatcher();
        Check.same("test out", patcher.item(true, 3, 0, 0, 0), -2);
        for (int i = 1; i <= 6; i++) {
            Check.same("item", patcher.item(false, 2, 0, 0, 0), i);
        }
        Check.same("seventh", patcher.item(false, 2, 0, 0, 0), -3);
        Check.same("seventh, a test out", patcher.item(true, 3, 0, 0, 0), -2);
        Check.same("seventh, a test out of no operand", patcher.item(true, 3, 0, 7, 0), -1);
        Check.same("seventh, of no kind", patcher.item(true, 4, 0, 0, 0), -1);
    }

    private static void refusedItemsChangeNothing() {
        PathPatcher patcher = Check.typed("!a;");
        patcher.item(false, 2, 0, 0, 0);
        patcher.item(false, 0, 0, 7, 0);
        patcher.item(true, 3, 0, 4, 0);
        Check.same("matches", Check.matchesOf(patcher), "[0]");
        Check.same("no unknown is named by a refused item", patcher.plus(2, 0, 4, 0), false);
    }

    private static void dotsNeedAnItem() {
        PathPatcher patcher = new PathPatcher();
        Check.same("no item", patcher.dots(-1, 0, 0, 0), false);
        patcher.item(false, 0, 0, 0, 0);
        Check.same("dots", patcher.dots(-1, ANY, ANY, ANY), true);
        Check.same("dots again", patcher.dots(-1, 0, 0, 0), false);
        Check.same("dots with a pattern again", patcher.dots(2, 0, 0, 0), false);
        patcher.item(false, 0, 0, 0, 0);
        Check.same("dots behind the next item", patcher.dots(3, ANY, 0, ANY), true);
        patcher.forget();
        Check.same("no item after forget", patcher.dots(-1, 0, 0, 0), false);
    }

    private static void dotsOfWrongPatterns() {
        int[][] wrong = {
            {-2, 0, 0, 0}, {4, 0, 0, 0}, {0, -1, 0, 0}, {0, 3, 0, 0}, {0, 0, -1, 0}, {0, 0, 7, 0},
            {1, 0, -1, 0}, {1, 0, 7, 0}, {1, 0, 0, -1}, {1, 0, 0, 7}, {2, 0, -1, 0}, {3, 0, 7, 0},
            {ANY, 0, 0, 0}, {2, 0, ANY, 0}, {1, 0, 0, Integer.MAX_VALUE}};
        PathPatcher patcher = Check.typed("f(a);");
        patcher.item(false, 0, 0, 0, 0);
        for (int[] p : wrong) {
            Check.same("dots " + p[0], patcher.dots(p[0], p[1], p[2], p[3]), false);
        }
        Check.same("no dots were put", patcher.matches(), 1);
        int[][] good = {{0, 2, 3, ANY}, {1, ANY, 0, 3}, {2, ANY, 3, ANY}, {3, ANY, 0, ANY}, {-1, 9, 9, 9}};
        for (int[] p : good) {
            patcher.forget();
            patcher.item(false, 0, 0, 0, 0);
            Check.same("dots " + p[0], patcher.dots(p[0], p[1], p[2], p[3]), true);
            Check.same("dots are behind the last", patcher.matches(), -2);
        }
    }

    private static void dotsOfUnknownsNotNamed() {
        PathPatcher patcher = new PathPatcher();
        patcher.item(false, 0, 0, 5, 4);
        Check.same("X is not named", patcher.dots(0, 0, 4, 0), false);
        Check.same("nor Z", patcher.dots(1, 0, 5, 6), false);
        Check.same("nor X in a test", patcher.dots(3, 0, 4, 0), false);
        Check.same("Y is, and the rest is not looked at", patcher.dots(2, 0, 5, 6), true);
        patcher.item(false, 1, 6, 0, 4);
        Check.same("X is now, Y was before", patcher.dots(1, 0, 4, 5), true);
        patcher.item(false, 3, 0, 0, 6);
        Check.same("Z is not", patcher.dots(2, 0, 6, 0), false);
    }

    private static void dotsBehindTheSixthItem() {
        PathPatcher patcher = new PathPatcher();
        for (int i = 0; i < 6; i++) {
            patcher.item(false, 0, 0, 0, 0);
        }
        Check.same("dots", patcher.dots(-1, 0, 0, 0), true);
        Check.same("seventh", patcher.item(false, 0, 0, 0, 0), -3);
        Check.same("matches", patcher.matches(), -2);
        Check.same("plus", patcher.plus(0, 0, 0, 0), false);
    }

    private static void plusNeedsAnItem() {
        PathPatcher patcher = new PathPatcher();
        Check.same("no item", patcher.plus(0, 0, 0, 0), false);
        patcher.item(false, 3, 0, 4, 0);
        Check.same("a test", patcher.plus(0, 0, 0, 0), false);
        patcher.item(false, 2, 0, 0, 0);
        Check.same("a return", patcher.plus(0, 0, 0, 0), true);
        patcher.dots(-1, 0, 0, 0);
        Check.same("behind dots", patcher.plus(0, 0, 0, 0), false);
        patcher.item(true, 1, 0, 0, 0);
        Check.same("an assignment", patcher.plus(2, 0, 0, 0), true);
    }

    private static void plusOfWrongStatements() {
        int[][] wrong = {
            {-1, 0, 0, 0}, {3, 0, 0, 0}, {4, 0, 0, 0}, {0, -1, 0, 0}, {0, 3, 0, 0}, {0, 0, -1, 0},
            {0, 0, 7, 0}, {1, 0, -1, 0}, {1, 0, 7, 0}, {1, 0, 0, -1}, {1, 0, 0, 7}, {2, 0, -1, 0},
            {2, 0, 7, 0}, {ANY, 0, 0, 0}, {2, 0, ANY, 0}};
        PathPatcher patcher = Check.typed("f(a);");
        patcher.item(false, 0, 0, 0, 0);
        for (int[] p : wrong) {
            Check.same("plus " + p[0], patcher.plus(p[0], p[1], p[2], p[3]), false);
        }
        Check.same("nothing was put", patcher.apply(), 0);
        Check.same("call", patcher.plus(0, 2, 3, ANY), true);
        Check.same("assignment", patcher.plus(1, ANY, 3, 2), true);
        Check.same("apply", patcher.apply(), 1);
        Check.same("text", Check.textOf(patcher), "f(a);h(d);d=c;");
    }

    private static void plusOfUnknownsNotNamed() {
        PathPatcher patcher = new PathPatcher();
        patcher.item(false, 2, 0, 6, 4);
        Check.same("X is not named", patcher.plus(2, 0, 4, 0), false);
        Check.same("nor Y", patcher.plus(1, 0, 6, 5), false);
        Check.same("nor X on the left", patcher.plus(1, 0, 4, 6), false);
        Check.same("Z is", patcher.plus(1, 4, 6, 6), true);
        Check.same("a new statement names nothing", patcher.plus(0, 0, 5, 0), false);
        Check.same("what is not looked at is no name", patcher.plus(2, 0, 6, 5), true);
    }

    private static void plusIsBounded() {
        PathPatcher patcher = Check.typed("!a;");
        patcher.item(false, 2, 0, 0, 0);
        Check.same("first", patcher.plus(0, 0, 0, 0), true);
        Check.same("second", patcher.plus(0, 1, 0, 0), true);
        Check.same("third", patcher.plus(0, 2, 0, 0), false);
        patcher.apply();
        Check.same("text", Check.textOf(patcher), "!a;f(a);g(a);");
    }

    private static void forgetEmptiesAll() {
        PathPatcher patcher = Check.typed("!b;!a;");
        patcher.item(true, 2, 0, 4, 0);
        patcher.plus(0, 0, 0, 0);
        patcher.dots(2, 0, 1, 0);
        patcher.forget();
        Check.same("matches", patcher.matches(), -2);
        Check.same("apply", patcher.apply(), -2);
        Check.same("text stays", Check.textOf(patcher), "!b;!a;");
        Check.same("first item", patcher.item(false, 2, 0, 0, 0), 1);
        Check.same("X is forgotten", patcher.plus(2, 0, 4, 0), false);
        Check.same("matches of the new item", Check.matchesOf(patcher), "[64]");
        Check.same("the old edits are forgotten", patcher.apply(), 0);
        Check.same("hits", Check.hitsOf(patcher), "1/0");
    }
}
