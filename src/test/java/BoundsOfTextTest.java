/** Promises 1 to 8: every sentence that names a case at the edge, on both sides of it. */
public final class BoundsOfTextTest {
    private static final int MIN = Integer.MIN_VALUE;
    private static final int MAX = Integer.MAX_VALUE;

    public static void main(String[] args) {
        newObjectHasNoText();
        newObjectHasNoScript();
        typeWhen160AreThere();
        typeOfCodesOutside();
        clearOfAnyText();
        clearLeavesTheScript();
        lengthOfAnyText();
        atWhenThereIsNone();
        nodesWhenNotWellFormed();
        nodesOfAnEmptyText();
        edgeWhenNotWellFormed();
        edgeWhenThereIsNoNode();
        edgeThatTheNodeHasNot();
        beginsWhenNotWellFormed();
        beginsWhenThereIsNoNode();
        lastOf512Calls();
        Check.end();
    }

    // Promise 1: "No text"
    private static void newObjectHasNoText() {
        PathPatcher patcher = new PathPatcher();
        Check.same("length", patcher.length(), 0);
        Check.same("at(0)", patcher.at(0), -1);
        Check.same("nodes", patcher.nodes(), 0);
        Check.same("edge(0, 0)", patcher.edge(0, 0), -1);
        Check.same("begins(0)", patcher.begins(0), -1);
        for (int i = 0; i < 160; i++) {
            Check.same("there is room for 160", patcher.type(' '), true);
        }
    }

    // Promise 1: "no script"
    private static void newObjectHasNoScript() {
        PathPatcher patcher = new PathPatcher();
        Check.same("matches", patcher.matches(), -2);
        Check.same("match(0)", patcher.match(0), -1);
        Check.same("hit(0, 0)", patcher.hit(0, 0), false);
        Check.same("apply", patcher.apply(), -2);
        Check.same("dots", patcher.dots(-1, 0, 0, 0), false);
        Check.same("plus", patcher.plus(0, 0, 0, 0), false);
        for (int i = 1; i <= 6; i++) {
            Check.same("there is room for 6", patcher.item(false, 0, 0, 0, 0), i);
        }
    }

    // Promise 2: "true; false when 160 are there"
    private static void typeWhen160AreThere() {
        PathPatcher patcher = new PathPatcher();
        for (int i = 0; i < 160; i++) {
            Check.same("type when " + i + " are there", patcher.type((char) (32 + i % 95)), true);
            Check.same("length", patcher.length(), i + 1);
        }
        Check.same("type when 160 are there", patcher.type('a'), false);
        Check.same("type a wrong code when 160 are there", patcher.type((char) 127), false);
        Check.same("length", patcher.length(), 160);
        for (int i = 0; i < 160; i++) {
            Check.same("at " + i, patcher.at(i), 32 + i % 95);
        }
    }

    // Promise 2: "false when .. c is not 32 .. 126"
    private static void typeOfCodesOutside() {
        int[] outside = {0, 1, 9, 10, 13, 30, 31, 127, 128, 159, 160, 255, 256, 256 + 32, 256 + 126,
            32767, 32768, 32768 + 97, 65535};
        PathPatcher patcher = Check.typed("!a");
        for (int code : outside) {
            Check.same("type " + code, patcher.type((char) code), false);
            Check.same("length", patcher.length(), 2);
        }
        int[] inside = {32, 33, 125, 126};
        for (int i = 0; i < inside.length; i++) {
            Check.same("type " + inside[i], patcher.type((char) inside[i]), true);
            Check.same("at", patcher.at(2 + i), inside[i]);
        }
    }

    // Promise 3: "The text is empty."
    private static void clearOfAnyText() {
        String[] texts = {"", " ", "!a;", "#", "}", "?a{}:{}".repeat(20) + "f(a);".repeat(4)};
        for (String text : texts) {
            PathPatcher patcher = Check.typed(text);
            patcher.nodes();
            patcher.clear();
            Check.same("length", patcher.length(), 0);
            Check.same("at(0)", patcher.at(0), -1);
            Check.same("nodes", patcher.nodes(), 0);
            Check.same("edge(0, 0)", patcher.edge(0, 0), -1);
            Check.same("begins(0)", patcher.begins(0), -1);
            for (int i = 0; i < 160; i++) {
                Check.same("type after clear", patcher.type('a'), true);
            }
            Check.same("type when 160 are there", patcher.type('a'), false);
        }
    }

    // Promise 3: "(The script stays.)"
    private static void clearLeavesTheScript() {
        PathPatcher patcher = Check.typed("!d;");
        patcher.item(true, 0, 0, 4, 0);
        patcher.plus(0, 1, 4, 0);
        patcher.dots(0, 2, 4, 0);
        patcher.clear();
        Check.same("dots stay", patcher.matches(), -2);
        Check.same("the item stays", patcher.item(false, 2, 0, 4, 0), 2);
        patcher.clear();
        Check.same("matches of the empty text", Check.matchesOf(patcher), "[]");
        Check.retype(patcher, "f(a);!a;");
        Check.found(patcher, "[0]", "0/0 1/1");
        Check.retype(patcher, "f(a);h(a);!a;");
        Check.found(patcher, "[]", "");
        Check.retype(patcher, "f(a);h(b);!a;");
        Check.applied(patcher, 1, "g(a);h(b);!a;");
    }

    // Promise 4: "The number of characters of the text."
    private static void lengthOfAnyText() {
        PathPatcher patcher = new PathPatcher();
        Check.same("of none", patcher.length(), 0);
        patcher.type(' ');
        Check.same("of one space", patcher.length(), 1);
        patcher.type((char) 31);
        Check.same("after a refusal", patcher.length(), 1);
        Check.retype(patcher, "# f(a); #f(a);");
        Check.same("comments count", patcher.length(), 14);
        patcher.item(true, 0, 0, 0, 0);
        patcher.apply();
        Check.same("after apply", patcher.length(), 9);
        patcher.clear();
        Check.same("after clear", patcher.length(), 0);
        Check.same("of a full one", Check.typed("x".repeat(160)).length(), 160);
    }

    // Promise 5: "-1 when there is none"
    private static void atWhenThereIsNone() {
        String[] texts = {"", "~", "!a;", "x".repeat(159), "y".repeat(160)};
        for (String text : texts) {
            PathPatcher patcher = Check.typed(text);
            int length = text.length();
            int[] none = {MIN, MIN + 1, -160, -1, length, length + 1, 161, 256, MAX - 1, MAX};
            for (int i : none) {
                Check.same("at " + i, patcher.at(i), -1);
            }
            if (length > 0) {
                Check.same("the first", patcher.at(0), text.charAt(0));
                Check.same("the last", patcher.at(length - 1), text.charAt(length - 1));
            }
        }
        PathPatcher shrunk = Check.typed("!a;!b;");
        shrunk.item(true, 2, 0, 0, 0);
        shrunk.apply();
        Check.same("the last that is left", shrunk.at(2), ';');
        Check.same("behind it", shrunk.at(3), -1);
        shrunk.clear();
        Check.same("after clear", shrunk.at(0), -1);
    }

    // Promise 6: "-1 when the text is not well-formed"
    private static void nodesWhenNotWellFormed() {
        PathPatcher patcher = new PathPatcher();
        String text = "f(a);?b{*c{a=d;}}:{!a;}";
        int[] due = {-1, -1, -1, -1, 1, -1, -1, -1, -1, -1, -1, -1, -1, -1, -1, -1, 4, -1, -1, -1, -1, -1, 5};
        for (int i = 0; i < text.length(); i++) {
            patcher.type(text.charAt(i));
            Check.same("nodes of " + text.substring(0, i + 1), patcher.nodes(), due[i]);
        }
        patcher.type('}');
        Check.same("nodes with a brace too many", patcher.nodes(), -1);
    }

    // Promise 6: "(0 for an empty one.)"
    private static void nodesOfAnEmptyText() {
        PathPatcher patcher = new PathPatcher();
        Check.same("nodes", patcher.nodes(), 0);
        patcher.type('!');
        Check.same("nodes of !", patcher.nodes(), -1);
        patcher.clear();
        Check.same("nodes after clear", patcher.nodes(), 0);
    }

    // Promise 7: "-1 when the text is not well-formed"
    private static void edgeWhenNotWellFormed() {
        PathPatcher patcher = Check.typed("?a{}f(a);");
        Check.same("edge(0, 0)", patcher.edge(0, 0), 1);
        Check.same("edge(0, 1)", patcher.edge(0, 1), 1);
        patcher.type('#');
        for (int n = -1; n <= 2; n++) {
            for (int k = -1; k <= 2; k++) {
                Check.same("edge of no program", patcher.edge(n, k), -1);
            }
        }
        patcher.type('#');
        Check.same("edge(0, 0)", patcher.edge(0, 0), 1);
        Check.same("edge with 25 nodes", Check.typed("!a;".repeat(25)).edge(0, 0), -1);
        Check.same("edge with 24 nodes", Check.typed("!a;".repeat(24)).edge(0, 0), 24);
    }

    // Promise 7: "-1 when .. there is no node n"
    private static void edgeWhenThereIsNoNode() {
        int[] none = {MIN, MIN + 1, -2, -1, 2, 3, 23, 24, 25, 32, 64, MAX - 1, MAX};
        PathPatcher patcher = Check.typed("*a{}*b{}");
        for (int n : none) {
            Check.same("edge 0 of " + n, patcher.edge(n, 0), -1);
            Check.same("edge 1 of " + n, patcher.edge(n, 1), -1);
        }
        Check.same("edge 0 of 0", patcher.edge(0, 0), 0);
        Check.same("edge 1 of 0", patcher.edge(0, 1), 1);
        Check.same("edge 0 of 1", patcher.edge(1, 0), 1);
        Check.same("edge 1 of 1", patcher.edge(1, 1), 2);
        PathPatcher full = Check.typed("?a{}".repeat(24));
        Check.same("edge 1 of 23", full.edge(23, 1), 24);
        Check.same("edge 1 of 24", full.edge(24, 1), -1);
        Check.same("edge of the empty text", new PathPatcher().edge(0, 0), -1);
    }

    // Promise 7: "-1 when .. it has no edge k"
    private static void edgeThatTheNodeHasNot() {
        PathPatcher patcher = Check.typed("a=b;f(a);?a{}*a{}!a;");
        int[] never = {MIN, MIN + 1, -2, -1, 2, 3, 32, MAX - 1, MAX};
        for (int n = 0; n < 5; n++) {
            for (int k : never) {
                Check.same("edge " + k + " of " + n, patcher.edge(n, k), -1);
            }
            Check.same("edge 0 of " + n, patcher.edge(n, 0), n == 3 ? 3 : n + 1);
        }
        int[] edge1 = {-1, -1, 3, 4, -1};
        for (int n = 0; n < 5; n++) {
            Check.same("edge 1 of " + n, patcher.edge(n, 1), edge1[n]);
        }
    }

    // Promise 8: "-1 when the text is not well-formed"
    private static void beginsWhenNotWellFormed() {
        PathPatcher patcher = Check.typed(" !a");
        Check.same("begins(0)", patcher.begins(0), -1);
        patcher.type(';');
        Check.same("begins(0)", patcher.begins(0), 1);
        patcher.type('#');
        Check.same("begins(0)", patcher.begins(0), -1);
        Check.same("with 25 nodes", Check.typed("!a;".repeat(25)).begins(0), -1);
        Check.same("with 24 nodes", Check.typed("!a;".repeat(24)).begins(0), 0);
    }

    // Promise 8: "-1 when .. there is no node n"
    private static void beginsWhenThereIsNoNode() {
        PathPatcher patcher = Check.typed("!a; !b;");
        int[] none = {MIN, MIN + 1, -1, 2, 3, 24, 32, MAX - 1, MAX};
        for (int n : none) {
            Check.same("begin of " + n, patcher.begins(n), -1);
        }
        Check.same("begin of 0", patcher.begins(0), 0);
        Check.same("begin of 1", patcher.begins(1), 4);
        PathPatcher full = Check.typed("!a;".repeat(23) + " ".repeat(88) + "!b;");
        Check.same("begin of 23", full.begins(23), 157);
        Check.same("begin of 24", full.begins(24), -1);
        Check.same("begin in the empty text", new PathPatcher().begins(0), -1);
    }

    // "An object is used for at most 512 calls after it has been made"
    private static void lastOf512Calls() {
        PathPatcher patcher = new PathPatcher();
        for (int call = 1; call < 512; call += 7) {
            patcher.clear();
            patcher.type('!');
            patcher.type('a');
            patcher.type(';');
            patcher.forget();
            patcher.item(true, 2, 0, 4, 0);
            Check.same("call " + (call + 6), patcher.apply(), 1);
        }
        Check.same("call 512", patcher.length(), 0);
    }
}
