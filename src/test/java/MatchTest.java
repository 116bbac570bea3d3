/** Promises 13 to 15: matches, match and hit. */
public final class MatchTest {
    public static void main(String[] args) {
        refusalsInOrder();
        patternsOfEachKind();
        bindingsAreOrdered();
        unknownsThatRepeat();
        nextWithoutDots();
        nextWithDots();
        forbiddenPatterns();
        forbiddenNodeThatIsTaken();
        waysThatNeverEnd();
        waysThroughTheNodeItself();
        takingLooksAhead();
        hitsStopAtTheFirstTaken();
        hitsOfNothing();
        answersFollowTextAndScript();
        allNodesAndBindings();
        Check.end();
    }

    private static void refusalsInOrder() {
        PathPatcher patcher = Check.typed("f(a)");
        Check.same("both are wrong", patcher.matches(), -1);
        patcher.type(';');
        Check.same("no item", patcher.matches(), -2);
        patcher.item(false, 0, 0, 4, 0);
        patcher.dots(-1, 0, 0, 0);
        Check.same("dots behind the last", patcher.matches(), -2);
        Check.same("match", patcher.match(0), -1);
        Check.same("hit", patcher.hit(0, 0), false);
        patcher.type('#');
        Check.same("text is wrong again", patcher.matches(), -1);
        patcher.forget();
        patcher.item(false, 0, 0, 4, 0);
        Check.same("match", patcher.match(0), -1);
        Check.same("hit", patcher.hit(0, 0), false);
        patcher.type('#');
        Check.found(patcher, "[0]", "0/0");
    }

    private static void patternsOfEachKind() {
        String text = "f(a);g(a);a=b;b=a;!a;?a{}*a{}f(b);!b;?b{}";
        int[][] patterns = {
            {0, 0, 0, 9}, {0, 1, 0, 9}, {0, 2, 0, 9}, {0, 0, 1, 9}, {1, 9, 0, 1}, {1, 9, 1, 0},
            {1, 9, 0, 0}, {2, 9, 0, 9}, {2, 9, 1, 9}, {3, 9, 0, 9}, {3, 9, 1, 9}, {3, 9, 2, 9}};
        String[] matches = {
            "[0]", "[64]", "[]", "[448]", "[128]", "[192]", "[]", "[256]", "[512]", "[320, 384]",
            "[576]", "[]"};
        for (int i = 0; i < patterns.length; i++) {
            PathPatcher patcher = Check.typed(text);
            int[] p = patterns[i];
            patcher.item(false, p[0], p[1], p[2], p[3]);
            Check.same("matches of pattern " + i, Check.matchesOf(patcher), matches[i]);
        }
    }

    private static void bindingsAreOrdered() {
        PathPatcher patcher = Check.typed("d=b;a=c;!d;");
        patcher.item(false, 1, 0, 6, 5);
        Check.found(patcher, "[52, 72]", "0/0 1/0");
        patcher.forget();
        patcher.item(false, 1, 0, 4, 6);
        Check.found(patcher, "[19, 96]", "0/0 1/0");
        patcher.forget();
        patcher.item(false, 2, 0, 5, 0);
        Check.found(patcher, "[140]", "2/0");
    }

    private static void unknownsThatRepeat() {
        PathPatcher patcher = Check.typed("a=a;a=b;c=c;f(c);f(d);");
        patcher.item(false, 1, 0, 4, 4);
        Check.found(patcher, "[0, 130]", "0/0 2/0");
        patcher.item(false, 0, 0, 4, 0);
        Check.found(patcher, "[130]", "2/0 3/1");
    }

    private static void nextWithoutDots() {
        PathPatcher patcher = Check.typed("?a{f(a);}:{f(a);}g(a);");
        patcher.item(false, 3, 0, 4, 0);
        patcher.item(false, 0, 0, 5, 0);
        Check.found(patcher, "[0]", "0/0 1/1 2/1");
        patcher.item(false, 0, 1, 4, 0);
        Check.found(patcher, "[0]", "0/0 1/1 2/1 3/2");
        Check.retype(patcher, "?a{f(a);}:{f(b);}g(a);");
        Check.found(patcher, "[]", "");
        Check.retype(patcher, "?a{f(a);}g(a);");
        Check.found(patcher, "[]", "");
        patcher.forget();
        patcher.item(false, 0, 1, 4, 0);
        patcher.item(false, 0, 1, 4, 0);
        Check.retype(patcher, "g(a);");
        Check.found(patcher, "[]", "");
        Check.retype(patcher, "g(a);g(a);g(a);");
        Check.found(patcher, "[0, 64]", "0/0 1/0 1/1 2/1");
    }

    private static void nextWithDots() {
        PathPatcher patcher = Check.typed("f(a);g(a);");
        patcher.item(false, 0, 0, 4, 0);
        patcher.dots(-1, 0, 0, 0);
        patcher.item(false, 0, 1, 4, 0);
        Check.found(patcher, "[0]", "0/0 1/1");
        Check.retype(patcher, "f(a);h(a);?b{c=d;}:{h(b);}g(a);");
        Check.found(patcher, "[0]", "0/0 5/1");
        Check.retype(patcher, "f(a);?b{g(a);}");
        Check.found(patcher, "[]", "");
        Check.retype(patcher, "f(a);?b{g(a);}:{h(a);g(a);}g(a);");
        Check.found(patcher, "[0]", "0/0 2/1 4/1");
        Check.retype(patcher, "f(a);?b{!c;}g(a);");
        Check.found(patcher, "[]", "");
        Check.retype(patcher, "f(a);f(b);g(b);g(a);f(c);");
        Check.found(patcher, "[0, 65]", "0/0 1/0 2/1 3/1");
        Check.retype(patcher, "f(a);*b{g(a);}");
        Check.found(patcher, "[]", "");
    }

    private static void forbiddenPatterns() {
        PathPatcher patcher = Check.typed("f(a);h(b);g(a);");
        patcher.item(false, 0, 0, 4, 0);
        patcher.dots(0, 2, 4, 0);
        patcher.item(false, 0, 1, 4, 0);
        Check.found(patcher, "[0]", "0/0 2/1");
        Check.retype(patcher, "f(a);h(a);g(a);");
        Check.found(patcher, "[]", "");
        Check.retype(patcher, "f(a);g(a);h(a);");
        Check.found(patcher, "[0]", "0/0 1/1");
        Check.retype(patcher, "f(a);?b{h(a);}g(a);");
        Check.found(patcher, "[]", "");
        Check.retype(patcher, "h(a);f(a);?b{h(c);}g(a);h(a);");
        Check.found(patcher, "[64]", "1/0 4/1");
        patcher.forget();
        patcher.item(false, 0, 0, 4, 0);
        patcher.dots(3, 0, 1, 0);
        patcher.item(false, 0, 1, 4, 0);
        Check.retype(patcher, "f(a);?b{}g(a);");
        Check.found(patcher, "[]", "");
        Check.retype(patcher, "f(a);*b{}g(a);");
        Check.found(patcher, "[]", "");
        Check.retype(patcher, "f(a);*a{}g(a);");
        Check.found(patcher, "[0]", "0/0 2/1");
    }

    private static void forbiddenNodeThatIsTaken() {
        PathPatcher patcher = Check.typed("f(a);h(a);g(a);");
        patcher.item(false, 0, 0, 4, 0);
        patcher.dots(0, 1, 4, 0);
        patcher.item(false, 0, 1, 4, 0);
        Check.found(patcher, "[0]", "0/0 2/1");
        patcher.item(false, 0, 1, 4, 0);
        Check.found(patcher, "[]", "");
        Check.retype(patcher, "f(a);h(a);g(a);g(a);");
        Check.found(patcher, "[0]", "0/0 2/1 3/2");
    }

    private static void waysThatNeverEnd() {
        PathPatcher patcher = Check.typed("f(a);*b{h(a);}g(a);");
        patcher.item(false, 0, 0, 4, 0);
        patcher.dots(-1, 0, 0, 0);
        patcher.item(false, 0, 1, 4, 0);
        Check.found(patcher, "[0]", "0/0 3/1");
        Check.retype(patcher, "*a{}");
        patcher.forget();
        patcher.item(false, 3, 0, 4, 0);
        patcher.dots(-1, 0, 0, 0);
        patcher.item(false, 3, 0, 4, 0);
        Check.found(patcher, "[]", "");
    }

    private static void waysThroughTheNodeItself() {
        PathPatcher patcher = Check.typed("*a{f(b);}g(b);");
        patcher.item(false, 0, 0, 4, 0);
        patcher.dots(-1, 0, 0, 0);
        patcher.item(false, 0, 1, 4, 0);
        Check.found(patcher, "[65]", "1/0 2/1");
        patcher.forget();
        patcher.item(false, 0, 0, 4, 0);
        patcher.dots(0, 0, 4, 0);
        patcher.item(false, 0, 1, 4, 0);
        Check.found(patcher, "[]", "");
        patcher.forget();
        patcher.item(false, 3, 0, 4, 0);
        patcher.dots(3, 0, 4, 0);
        patcher.item(false, 0, 1, 5, 0);
        Check.found(patcher, "[]", "");
    }

    /** A node like the next item is no end of the gap if what follows it does not fit. */
    private static void takingLooksAhead() {
        PathPatcher patcher = Check.typed("f(a);g(a);h(b);g(a);h(a);");
        patcher.item(false, 0, 0, 4, 0);
        patcher.dots(-1, 0, 0, 0);
        patcher.item(false, 0, 1, 4, 0);
        patcher.item(false, 0, 2, 4, 0);
        Check.found(patcher, "[0]", "0/0 3/1 4/2");
    }

    private static void hitsStopAtTheFirstTaken() {
        PathPatcher patcher = Check.typed("f(a);g(a);g(a);");
        patcher.item(false, 0, 0, 4, 0);
        patcher.dots(-1, 0, 0, 0);
        patcher.item(false, 0, 1, 4, 0);
        Check.found(patcher, "[0]", "0/0 1/1");
        Check.retype(patcher, "f(a);?b{g(a);}g(a);g(a);");
        Check.found(patcher, "[0]", "0/0 2/1 3/1");
        patcher.dots(-1, 0, 0, 0);
        patcher.item(false, 0, 1, 4, 0);
        Check.found(patcher, "[0]", "0/0 2/1 3/1 3/2 4/2");
    }

    private static void hitsOfNothing() {
        PathPatcher patcher = Check.typed("f(a);");
        patcher.item(false, 0, 0, 4, 0);
        Check.same("hit(0, 0)", patcher.hit(0, 0), true);
        int[] none = {-1, 1, 6, 24, 32, Integer.MAX_VALUE, Integer.MIN_VALUE};
        for (int i : none) {
            Check.same("no node " + i, patcher.hit(i, 0), false);
            Check.same("no item " + i, patcher.hit(0, i), false);
        }
    }

    private static void answersFollowTextAndScript() {
        PathPatcher patcher = Check.typed("f(a);f(b);");
        patcher.item(false, 0, 0, 4, 0);
        Check.found(patcher, "[0, 65]", "0/0 1/0");
        patcher.type('!');
        Check.same("no program", patcher.matches(), -1);
        patcher.type('a');
        patcher.type(';');
        Check.found(patcher, "[0, 65]", "0/0 1/0");
        patcher.dots(-1, 0, 0, 0);
        Check.same("no script", patcher.matches(), -2);
        patcher.item(false, 2, 0, 4, 0);
        Check.found(patcher, "[0]", "0/0 2/1");
        patcher.apply();
        Check.found(patcher, "[0]", "0/0 2/1");
        patcher.clear();
        Check.found(patcher, "[]", "");
    }

    private static void allNodesAndBindings() {
        PathPatcher patcher = Check.typed("?a{}".repeat(24));
        patcher.item(false, 3, 0, 0, 0);
        Check.same("tests of a", patcher.matches(), 24);
        Check.same("last match", patcher.match(23), 64 * 23);
        patcher.item(false, 3, 0, 4, 0);
        Check.same("pairs of tests", patcher.matches(), 23);
        Check.same("last hit", patcher.hit(23, 1), true);
        Check.same("last hit is not the first item", patcher.hit(23, 0), false);
        PathPatcher free = Check.typed("?a{}!b;");
        free.item(false, 3, 0, 0, 0);
        free.dots(-1, 0, 0, 0);
        free.item(false, 2, 0, 1, 0);
        Check.same("unknowns that are not named are 0", Check.matchesOf(free), "[0]");
    }
}
