/**
 * Promises 13 to 15 and the terms behind them (pattern, binding, take, way, match, hit): every
 * sentence that names a case at the edge, on both sides of it.
 */
public final class BoundsOfSearchTest {
    private static final int MIN = Integer.MIN_VALUE;
    private static final int MAX = Integer.MAX_VALUE;

    public static void main(String[] args) {
        functionsAndVariablesOfCalls();
        variablesOfAssignments();
        kindsAreApart();
        unknownsAreAnyVariable();
        unknownsNotNamedAreBoundTo0();
        lastItemTakesWhatIsLikeIt();
        everySuccessorIsTakenByTheNext();
        exitIsTakenByNone();
        wayOfOneNode();
        wayThatEndsAtTheExit();
        wayThatEndsAtTheForbidden();
        wayOnWhichTheNextItemTakesOne();
        wayBackToTheNode();
        numbersOfMatches();
        hitAsTheFirstItem();
        everySuccessorIsHit();
        firstTakenOnEachWayIsHit();
        matchesWhenNotWellFormed();
        matchesWhenTheScriptHasNoItem();
        matchesWhenDotsAreBehindTheLast();
        matchesOfNoneToAll();
        matchesInOrder();
        matchWhenThereIsNone();
        matchWhereMatchesIsNegative();
        hitWhenThereIsNoNode();
        hitWhenThereIsNoItem();
        hitWhereMatchesIsNegative();
        Check.end();
    }

    private static PathPatcher item(String text, int op, int f, int x, int y) {
        PathPatcher patcher = Check.typed(text);
        patcher.item(false, op, f, x, y);
        return patcher;
    }

    /** f(X) and g(X) with nothing between. */
    private static PathPatcher pair(String text) {
        PathPatcher patcher = item(text, 0, 0, 4, 0);
        patcher.item(false, 0, 1, 4, 0);
        return patcher;
    }

    /** f(X), dots that forbid h(X), and g(X). */
    private static PathPatcher gap(String text) {
        PathPatcher patcher = item(text, 0, 0, 4, 0);
        patcher.dots(0, 2, 4, 0);
        patcher.item(false, 0, 1, 4, 0);
        return patcher;
    }

    // "0 a CALL of f with x"; "Functions are 0 .. 2; operands 0 .. 3 are the variables"
    private static void functionsAndVariablesOfCalls() {
        String text = "f(a);f(b);f(c);f(d);g(a);g(b);g(c);g(d);h(a);h(b);h(c);h(d);";
        for (int f = 0; f <= 2; f++) {
            for (int x = 0; x <= 3; x++) {
                PathPatcher patcher = item(text, 0, f, x, 0);
                Check.same("one call", Check.matchesOf(patcher), "[" + 64 * (4 * f + x) + "]");
            }
        }
        for (int n = 0; n < 4; n++) {
            String variable = "abcd".substring(n, n + 1);
            Check.same("test", Check.matchesOf(item("?" + variable + "{}", 3, 0, n, 0)), "[0]");
            Check.same("return", Check.matchesOf(item("!" + variable + ";", 2, 0, n, 0)), "[0]");
            Check.same("other", Check.matchesOf(item("!" + variable + ";", 2, 0, (n + 1) % 4, 0)), "[]");
        }
    }

    // "1 an ASSIGNMENT of y to x (x = y)"
    private static void variablesOfAssignments() {
        StringBuilder text = new StringBuilder();
        for (int i = 0; i < 16; i++) {
            text.append("abcd".charAt(i / 4)).append('=').append("abcd".charAt(i % 4)).append(';');
        }
        for (int i = 0; i < 16; i++) {
            PathPatcher patcher = item(text.toString(), 1, 0, i / 4, i % 4);
            Check.same("one assignment", Check.matchesOf(patcher), "[" + 64 * i + "]");
        }
        Check.same("X = X", item(text.toString(), 1, 0, 4, 4).matches(), 4);
        Check.same("X = Y", item(text.toString(), 1, 0, 4, 5).matches(), 16);
        Check.same("X = a", Check.matchesOf(item(text.toString(), 1, 0, 4, 0)), "[0, 257, 514, 771]");
    }

    // "A node is LIKE a pattern under a binding if it is of its kind"
    private static void kindsAreApart() {
        String text = "f(a);a=a;!a;?a{}*a{}";
        String[] due = {"[0]", "[64]", "[128]", "[192, 256]"};
        for (int op = 0; op <= 3; op++) {
            Check.same("kind " + op, Check.matchesOf(item(text, op, 0, 0, 0)), due[op]);
        }
    }

    // "4, 5, 6 the UNKNOWNS X, Y, Z"; "A BINDING gives every unknown a variable"
    private static void unknownsAreAnyVariable() {
        String text = "!a;!b;!c;!d;";
        String[] due = {"[0, 65, 130, 195]", "[0, 68, 136, 204]", "[0, 80, 160, 240]"};
        for (int unknown = 4; unknown <= 6; unknown++) {
            Check.same("unknown", Check.matchesOf(item(text, 2, 0, unknown, 0)), due[unknown - 4]);
        }
    }

    // "unknowns that no item of the script names are bound to 0"
    private static void unknownsNotNamedAreBoundTo0() {
        Check.same("none is named", Check.matchesOf(item("!d;", 2, 0, 3, 0)), "[0]");
        Check.same("X alone", Check.matchesOf(item("!d;", 2, 0, 4, 0)), "[3]");
        Check.same("y is not looked at", Check.matchesOf(item("!d;", 2, 5, 4, 5)), "[3]");
        PathPatcher patcher = item("!d;f(d);", 0, 0, 6, 0);
        Check.same("Z alone", Check.matchesOf(patcher), "[112]");
        patcher.forget();
        patcher.item(false, 2, 0, 3, 0);
        Check.same("Z is forgotten", Check.matchesOf(patcher), "[0]");
        PathPatcher later = item("f(d);g(b);g(c);", 0, 0, 3, 0);
        Check.same("none is named yet", Check.matchesOf(later), "[0]");
        later.dots(-1, 0, 0, 0);
        later.item(false, 0, 1, 5, 0);
        Check.same("Y is named, by two bindings of one node", Check.matchesOf(later), "[4, 8]");
    }

    // "an item TAKES a node that is like it if the item is the last one"
    private static void lastItemTakesWhatIsLikeIt() {
        Check.found(item("f(a);", 0, 0, 0, 0), "[0]", "0/0");
        Check.found(item("!b;f(a);f(a);", 0, 0, 0, 0), "[64, 128]", "1/0 2/0");
        Check.found(item("*a{}", 3, 0, 0, 0), "[0]", "0/0");
        Check.found(item("", 3, 0, 0, 0), "[]", "");
        Check.found(item("f(b);", 0, 0, 0, 0), "[]", "");
    }

    // "if the next item follows without dots: every successor of the node is a node that the next
    // item takes"
    private static void everySuccessorIsTakenByTheNext() {
        Check.found(pair("f(a);g(a);"), "[0]", "0/0 1/1");
        Check.found(pair("f(a);g(b);"), "[]", "");
        Check.found(pair("f(a);h(b);g(a);"), "[]", "");
        PathPatcher test = item("?a{g(a);}:{g(a);}", 3, 0, 4, 0);
        test.item(false, 0, 1, 4, 0);
        Check.found(test, "[0]", "0/0 1/1 2/1");
        Check.retype(test, "?a{g(a);}:{g(b);}");
        Check.found(test, "[]", "");
        Check.retype(test, "?a{g(b);}:{g(a);}");
        Check.found(test, "[]", "");
        Check.retype(test, "?a{}:{}g(a);");
        Check.found(test, "[0]", "0/0 1/1");
        Check.retype(test, "?a{g(a);}g(a);");
        Check.found(test, "[0]", "0/0 1/1 2/1");
        PathPatcher loop = item("*a{}?a{}", 3, 0, 4, 0);
        loop.item(false, 3, 0, 4, 0);
        Check.found(loop, "[0]", "0/0 0/1 1/1");
        Check.retype(loop, "*a{}?b{}");
        Check.found(loop, "[]", "");
    }

    // The exit "is no node": no item takes it.
    private static void exitIsTakenByNone() {
        Check.found(pair("f(a);"), "[]", "");
        PathPatcher last = item("!a;!a;", 2, 0, 0, 0);
        Check.found(last, "[0, 64]", "0/0 1/0");
        last.item(false, 2, 0, 0, 0);
        Check.found(last, "[]", "");
        PathPatcher test = item("?a{g(a);}", 3, 0, 4, 0);
        test.item(false, 0, 1, 4, 0);
        Check.found(test, "[]", "");
        test.forget();
        test.item(false, 3, 0, 4, 0);
        test.dots(-1, 0, 0, 0);
        test.item(false, 0, 1, 4, 0);
        Check.found(test, "[]", "");
        PathPatcher full = item("?a{}".repeat(24), 3, 0, 0, 0);
        full.item(false, 3, 0, 0, 0);
        Check.same("the 24th leads to the exit", full.matches(), 23);
        Check.same("the 23rd is the last", full.match(22), 64 * 22);
    }

    // "A way is a row of one or more nodes .., the first a successor of the node"
    private static void wayOfOneNode() {
        Check.found(gap("f(a);g(a);"), "[0]", "0/0 1/1");
        Check.found(gap("f(a);h(a);"), "[]", "");
        Check.found(gap("f(a);h(a);g(a);"), "[]", "");
        Check.found(gap("f(a);"), "[]", "");
        Check.found(gap("h(a);f(a);g(a);"), "[64]", "1/0 2/1");
    }

    // "(the last may also be the exit)"; "it is bad if the next item takes none of its nodes, and
    // its last one is the exit"
    private static void wayThatEndsAtTheExit() {
        Check.found(gap("f(a);h(b);g(a);!a;"), "[0]", "0/0 2/1");
        Check.found(gap("f(a);?b{!b;}g(a);"), "[]", "");
        Check.found(gap("f(a);?b{g(a);!b;}g(a);"), "[0]", "0/0 2/1 4/1");
        Check.found(gap("f(a);*b{g(a);}"), "[]", "");
        Check.found(gap("f(a);*b{g(a);}g(a);"), "[0]", "0/0 2/1 3/1");
        Check.found(gap("f(a);*b{}g(a);"), "[0]", "0/0 2/1");
        String far = "f(a);" + "f(b);".repeat(22) + "g(a);";
        Check.found(gap(far), "[0]", "0/0 23/1");
        Check.found(gap("f(a);" + "f(b);".repeat(22) + "g(c);"), "[]", "");
    }

    // "it is bad if .. its last one .. is like the forbidden pattern"
    private static void wayThatEndsAtTheForbidden() {
        Check.found(gap("f(a);h(b);g(a);"), "[0]", "0/0 2/1");
        Check.found(gap("f(a);f(b);h(a);g(a);g(b);"), "[65]", "1/0 4/1");
        Check.found(gap("f(a);?b{h(a);}g(a);"), "[]", "");
        Check.found(gap("f(a);?b{h(b);}g(a);"), "[0]", "0/0 3/1");
        Check.found(gap("f(a);*b{h(a);}g(a);"), "[]", "");
        Check.found(gap("f(a);g(a);h(a);"), "[0]", "0/0 1/1");
        Check.found(gap("f(a);?b{g(a);h(a);}:{g(a);}h(a);"), "[0]", "0/0 2/1 4/1");
        Check.found(gap("f(a);" + "f(b);".repeat(21) + "h(a);g(a);"), "[]", "");
        PathPatcher free = item("f(a);h(a);g(a);", 0, 0, 4, 0);
        free.dots(-1, 2, 4, 0);
        free.item(false, 0, 1, 4, 0);
        Check.found(free, "[0]", "0/0 2/1");
    }

    // "it is bad if the next item takes none of its nodes": not if the forbidden node is taken
    private static void wayOnWhichTheNextItemTakesOne() {
        PathPatcher patcher = item("f(a);g(a);", 0, 0, 4, 0);
        patcher.dots(0, 1, 4, 0);
        patcher.item(false, 0, 1, 4, 0);
        Check.found(patcher, "[0]", "0/0 1/1");
        patcher.item(false, 0, 2, 4, 0);
        Check.found(patcher, "[]", "");
        Check.retype(patcher, "f(a);g(a);h(a);");
        Check.found(patcher, "[0]", "0/0 1/1 2/2");
        Check.retype(patcher, "f(a);g(a);g(a);h(a);");
        Check.found(patcher, "[]", "");
    }

    // "each further one a successor of that before it": a way may lead through the node itself
    private static void wayBackToTheNode() {
        PathPatcher patcher = item("*b{f(a);}g(a);", 0, 0, 4, 0);
        patcher.dots(0, 0, 4, 0);
        patcher.item(false, 0, 1, 4, 0);
        Check.found(patcher, "[]", "");
        Check.retype(patcher, "?b{f(a);}g(a);");
        Check.found(patcher, "[64]", "1/0 2/1");
        patcher.forget();
        patcher.item(false, 0, 0, 4, 0);
        patcher.dots(-1, 0, 0, 0);
        patcher.item(false, 0, 0, 4, 0);
        Check.retype(patcher, "*b{f(a);}");
        Check.found(patcher, "[]", "");
        Check.retype(patcher, "*b{f(a);}f(a);");
        Check.found(patcher, "[64]", "1/0 1/1 2/1");
    }

    // "Its number is 64 * node + X + 4 * Y + 16 * Z."
    private static void numbersOfMatches() {
        Check.same("the smallest", Check.matchesOf(item("!a;", 2, 0, 4, 0)), "[0]");
        PathPatcher patcher = Check.typed("!a;".repeat(22) + "*d{d=d;}");
        patcher.item(false, 1, 0, 4, 5);
        patcher.item(false, 3, 0, 6, 0);
        Check.found(patcher, "[1535]", "22/1 23/0");
        for (int z = 0; z < 4; z++) {
            for (int y = 0; y < 4; y++) {
                for (int x = 0; x < 4; x++) {
                    String text = "!a;" + "abcd".charAt(x) + "=" + "abcd".charAt(y) + ";f(" + "abcd".charAt(z) + ");";
                    PathPatcher each = item(text, 1, 0, 4, 5);
                    each.item(false, 0, 0, 6, 0);
                    Check.same("number", Check.matchesOf(each), "[" + (64 + x + 4 * y + 16 * z) + "]");
                }
            }
        }
    }

    // "With each match nodes are HIT, each as an item: its node as the first item"
    private static void hitAsTheFirstItem() {
        Check.found(item("f(a);f(b);", 0, 0, 4, 0), "[0, 65]", "0/0 1/0");
        Check.found(item("f(a);f(b);", 0, 0, 1, 0), "[64]", "1/0");
        Check.found(pair("f(a);f(b);g(b);"), "[65]", "1/0 2/1");
        Check.found(pair("g(b);f(a);"), "[]", "");
    }

    // "and the next follows without dots, every successor as the next item"
    private static void everySuccessorIsHit() {
        PathPatcher patcher = item("?a{f(a);}:{f(b);}?a{f(a);}:{f(b);}g(a);", 3, 0, 4, 0);
        patcher.item(false, 0, 0, 4, 0);
        Check.found(patcher, "[]", "");
        Check.retype(patcher, "?a{f(a);}:{f(a);}g(b);");
        Check.found(patcher, "[0]", "0/0 1/1 2/1");
        patcher.item(false, 0, 1, 5, 0);
        Check.found(patcher, "[4]", "0/0 1/1 2/1 3/2");
        PathPatcher six = item("?a{}".repeat(8), 3, 0, 0, 0);
        for (int i = 0; i < 5; i++) {
            six.item(false, 3, 0, 0, 0);
        }
        Check.same("matches", Check.matchesOf(six), "[0, 64, 128]");
        for (int n = 0; n < 8; n++) {
            for (int k = 0; k < 6; k++) {
                Check.same("hit " + n + ", " + k, six.hit(n, k), n >= k && n - k <= 2);
            }
        }
    }

    // "if with dots, every node that the next item takes and that is the last one of a way from the
    // node on which the next item takes none before it"
    private static void firstTakenOnEachWayIsHit() {
        Check.found(gap("f(a);g(a);g(a);"), "[0]", "0/0 1/1");
        Check.found(gap("f(a);?b{g(a);}g(a);g(a);"), "[0]", "0/0 2/1 3/1");
        Check.found(gap("f(a);?b{g(a);}:{g(a);}g(a);"), "[0]", "0/0 2/1 3/1");
        Check.found(gap("f(a);*b{g(a);}g(a);"), "[0]", "0/0 2/1 3/1");
        Check.found(gap("f(a);g(b);g(a);"), "[0]", "0/0 2/1");
        PathPatcher twice = gap("f(a);g(a);?b{h(a);}:{h(a);}");
        twice.dots(-1, 0, 0, 0);
        twice.item(false, 0, 2, 4, 0);
        Check.found(twice, "[0]", "0/0 1/1 3/2 4/2");
        // The second g(a) is taken too, but lies behind the first: it is no hit.
        Check.retype(twice, "f(a);g(a);g(a);h(a);");
        Check.found(twice, "[0]", "0/0 1/1 3/2");
        Check.retype(twice, "f(a);?b{g(a);}g(a);h(a);");
        Check.found(twice, "[0]", "0/0 2/1 3/1 4/2");
        // The first g(a) is like the next item, but not taken, as h(b) follows: it ends no way.
        PathPatcher row = item("f(a);g(a);h(b);g(a);h(a);", 0, 0, 4, 0);
        row.dots(-1, 0, 0, 0);
        row.item(false, 0, 1, 4, 0);
        row.item(false, 0, 2, 4, 0);
        Check.found(row, "[0]", "0/0 3/1 4/2");
    }

    // Promise 13: "-1 when the text is not well-formed"
    private static void matchesWhenNotWellFormed() {
        PathPatcher patcher = item("f(a)", 0, 0, 0, 0);
        Check.same("without the semicolon", patcher.matches(), -1);
        patcher.type(';');
        Check.same("with it", patcher.matches(), 1);
        patcher.type('#');
        Check.same("with half a comment", patcher.matches(), -1);
        patcher.type('#');
        Check.same("with a whole one", patcher.matches(), 1);
        Check.same("with 24 nodes", item("f(a);".repeat(24), 0, 0, 0, 0).matches(), 24);
        Check.same("with 25 nodes", item("f(a);".repeat(25), 0, 0, 0, 0).matches(), -1);
        Check.same("before the script is looked at", Check.typed("x").matches(), -1);
    }

    // Promise 13: "-2 when the script has no item"
    private static void matchesWhenTheScriptHasNoItem() {
        PathPatcher patcher = Check.typed("!a;");
        Check.same("no item", patcher.matches(), -2);
        patcher.item(false, 4, 0, 0, 0);
        Check.same("a refused item", patcher.matches(), -2);
        patcher.item(false, 2, 0, 0, 0);
        Check.same("an item", patcher.matches(), 1);
        patcher.forget();
        Check.same("no item again", patcher.matches(), -2);
        Check.same("of the empty text", new PathPatcher().matches(), -2);
    }

    // Promise 13: "-2 when the script has .. dots behind the last one"
    private static void matchesWhenDotsAreBehindTheLast() {
        PathPatcher patcher = item("!a;", 2, 0, 0, 0);
        Check.same("no dots", patcher.matches(), 1);
        Check.same("refused dots", patcher.dots(4, 0, 0, 0), false);
        Check.same("still no dots", patcher.matches(), 1);
        patcher.dots(-1, 0, 0, 0);
        Check.same("dots", patcher.matches(), -2);
        patcher.item(false, 2, 0, 0, 0);
        Check.same("dots before the last", patcher.matches(), 0);
        patcher.dots(2, 0, 0, 0);
        Check.same("dots again", patcher.matches(), -2);
    }

    // Promise 13: "The number of matches"
    private static void matchesOfNoneToAll() {
        Check.same("in the empty text", item("", 2, 0, 4, 0).matches(), 0);
        Check.same("none", item("!a;", 2, 0, 1, 0).matches(), 0);
        Check.same("one", item("!a;", 2, 0, 0, 0).matches(), 1);
        Check.same("all of 24", item("!a;".repeat(24), 2, 0, 4, 0).matches(), 24);
        PathPatcher six = item("?a{}".repeat(24), 3, 0, 0, 0);
        for (int items = 1; items <= 6; items++) {
            Check.same("rows of " + items, six.matches(), 25 - items);
            six.item(false, 3, 0, 0, 0);
        }
    }

    // Promise 14: "matches being ordered by their numbers"
    private static void matchesInOrder() {
        PathPatcher calls = item("f(b);f(a);g(d);g(c);", 0, 0, 4, 0);
        calls.dots(-1, 0, 0, 0);
        calls.item(false, 0, 1, 5, 0);
        Check.same("by nodes, then by bindings", Check.matchesOf(calls), "[9, 13, 72, 76]");
        PathPatcher assigned = item("f(a);a=b;d=a;b=a;", 0, 0, 0, 0);
        assigned.dots(-1, 0, 0, 0);
        assigned.item(false, 1, 0, 4, 6);
        Check.same("X counts least, Z most", Check.matchesOf(assigned), "[1, 3, 16]");
    }

    // Promise 14: "-1 when there is none"
    private static void matchWhenThereIsNone() {
        PathPatcher patcher = item("!a;!d;!b;", 2, 0, 4, 0);
        int[] due = {0, 67, 129};
        for (int i = 0; i < 3; i++) {
            Check.same("match " + i, patcher.match(i), due[i]);
        }
        int[] none = {MIN, MIN + 1, -2, -1, 3, 4, 24, 64, 1536, MAX - 1, MAX};
        for (int i : none) {
            Check.same("match " + i, patcher.match(i), -1);
        }
        PathPatcher full = item("!a;".repeat(24), 2, 0, 4, 0);
        Check.same("the 24th", full.match(23), 64 * 23);
        Check.same("the 25th", full.match(24), -1);
        PathPatcher nothing = item("!a;", 2, 0, 1, 0);
        Check.same("of none", nothing.match(0), -1);
        Check.same("before none", nothing.match(-1), -1);
    }

    // Promise 14: "(also where matches() is negative)"
    private static void matchWhereMatchesIsNegative() {
        PathPatcher patcher = item("!a;", 2, 0, 4, 0);
        Check.same("a match", patcher.match(0), 0);
        patcher.type('!');
        Check.same("not well-formed", patcher.match(0), -1);
        patcher.type('b');
        patcher.type(';');
        Check.same("well-formed", patcher.match(1), 65);
        patcher.dots(-1, 0, 0, 0);
        Check.same("dots behind the last", patcher.match(0), -1);
        patcher.forget();
        Check.same("no item", patcher.match(0), -1);
        patcher.item(false, 2, 0, 4, 0);
        Check.same("an item", patcher.match(1), 65);
    }

    // Promise 15: "false also when there is no such node"
    private static void hitWhenThereIsNoNode() {
        PathPatcher patcher = item("!a;!a;", 2, 0, 0, 0);
        Check.same("node 0", patcher.hit(0, 0), true);
        Check.same("node 1", patcher.hit(1, 0), true);
        // 32, 33 and 64 would be bits 0 and 1 once more.
        int[] none = {MIN, MIN + 1, -32, -31, -2, -1, 2, 3, 23, 24, 25, 31, 32, 33, 64, MAX - 1, MAX};
        for (int n : none) {
            Check.same("node " + n, patcher.hit(n, 0), false);
        }
        PathPatcher full = item("!a;".repeat(24), 2, 0, 0, 0);
        Check.same("node 23", full.hit(23, 0), true);
        Check.same("node 24", full.hit(24, 0), false);
        Check.same("in the empty text", item("", 2, 0, 0, 0).hit(0, 0), false);
    }

    // Promise 15: "false also when there is no such .. item"
    private static void hitWhenThereIsNoItem() {
        PathPatcher patcher = item("?a{}?a{}?a{}", 3, 0, 0, 0);
        patcher.item(false, 3, 0, 0, 0);
        Check.same("item 0", patcher.hit(1, 0), true);
        Check.same("item 1", patcher.hit(1, 1), true);
        int[] none = {MIN, MIN + 1, -2, -1, 2, 3, 5, 6, 7, 32, MAX - 1, MAX};
        for (int k : none) {
            Check.same("item " + k, patcher.hit(1, k), false);
        }
        PathPatcher six = item("?a{}".repeat(6), 3, 0, 0, 0);
        for (int i = 0; i < 5; i++) {
            six.item(false, 3, 0, 0, 0);
        }
        Check.same("item 5 of six", six.hit(5, 5), true);
        Check.same("item 6 of six", six.hit(5, 6), false);
        // An item that was there before forget() is there no more.
        patcher.forget();
        patcher.item(false, 3, 0, 0, 0);
        Check.same("item 0 again", patcher.hit(1, 0), true);
        Check.same("item 1 is forgotten", patcher.hit(1, 1), false);
    }

    // Promise 15: "false also when .. matches() is negative"
    private static void hitWhereMatchesIsNegative() {
        PathPatcher patcher = item("!a;", 2, 0, 4, 0);
        Check.same("a hit", patcher.hit(0, 0), true);
        patcher.type('#');
        Check.same("not well-formed", patcher.hit(0, 0), false);
        patcher.type('#');
        Check.same("well-formed", patcher.hit(0, 0), true);
        patcher.dots(-1, 0, 0, 0);
        Check.same("dots behind the last", patcher.hit(0, 0), false);
        patcher.forget();
        Check.same("no item", patcher.hit(0, 0), false);
        patcher.item(false, 2, 0, 4, 0);
        Check.same("an item", patcher.hit(0, 0), true);
    }
}
