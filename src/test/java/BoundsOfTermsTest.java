/**
 * The sentences of "Terms" that name a limit or a case at the edge, up to the edges of nodes, each
 * quoted above its test and tried on both sides.
 */
public final class BoundsOfTermsTest {
    /** 160 characters and 24 nodes: both limits at once, and no character that is no token. */
    private static final String FULL = "?a{}:{}".repeat(20) + "f(a);".repeat(4);

    public static void main(String[] args) {
        textHasUpTo160Characters();
        textHasCodes32To126();
        commentEndsAtTheNextMark();
        commentIsNotLookedAt();
        commentWithoutItsSecondMark();
        everyOtherCharacterIsAToken();
        everyPlaceOfAStatement();
        rowOfNoStatements();
        rowsWithinStatementsPerhapsNone();
        bracesInPairs();
        atMost24Nodes();
        atMost6PairsWithinOneAnother();
        spansOfStatements();
        spansOfTests();
        nodesAreNumberedAsTheyBegin();
        numberOfTheExit();
        nextStatementInTheSameRow();
        lastOfALoopsRow();
        lastOfAChoicesRow();
        lastOfTheOutermostRow();
        edgeOfAReturn();
        edge0OfATest();
        edge1OfALoop();
        edge1OfAChoice();
        Check.end();
    }

    private static void sameNodes(PathPatcher patcher, int nodes, int lastEdge) {
        Check.same("nodes", patcher.nodes(), nodes);
        Check.same("edge of the last node", patcher.edge(nodes - 1, 0), lastEdge);
    }

    // "THE TEXT has up to 160 characters"
    private static void textHasUpTo160Characters() {
        PathPatcher patcher = Check.typed(FULL.substring(0, 159));
        Check.same("159 characters are no program yet", patcher.nodes(), -1);
        Check.same("the 160th", patcher.type(';'), true);
        Check.same("length", patcher.length(), 160);
        sameNodes(patcher, 24, 24);
        Check.same("the 161st", patcher.type(' '), false);
        Check.same("length", patcher.length(), 160);
        sameNodes(patcher, 24, 24);
    }

    // "(codes 32 .. 126)"
    private static void textHasCodes32To126() {
        PathPatcher patcher = Check.typed("##");
        patcher.clear();
        patcher.type('#');
        Check.same("code 31", patcher.type((char) 31), false);
        Check.same("code 32", patcher.type((char) 32), true);
        Check.same("code 126", patcher.type((char) 126), true);
        Check.same("code 127", patcher.type((char) 127), false);
        patcher.type('#');
        Check.same("text", Check.textOf(patcher), "# ~#");
        Check.same("nodes", patcher.nodes(), 0);
    }

    // "A COMMENT goes from a # to the next #, both included"
    private static void commentEndsAtTheNextMark() {
        Check.nodes("##", 0);
        Check.nodes("##!a;", 1);
        Check.nodes("#!a;#", 0);
        Check.nodes("#!a;#!b;", 1);
        Check.nodes("#!a;#!b;#!c;#", 1);
        Check.nodes("##!a;##", 1);
        Check.nodes("#" + " ".repeat(158) + "#", 0);
        Check.nodes("#" + "x".repeat(153) + "#f(a);", 1);
        Check.same("begins", Check.typed("#" + "x".repeat(153) + "#f(a);").begins(0), 155);
    }

    // "(what is between is not looked at)"
    private static void commentIsNotLookedAt() {
        for (char c = 32; c <= 126; c++) {
            if (c != '#') {
                Check.nodes("!#" + c + "#a;", 1);
                Check.nodes("#" + c + "#", 0);
            }
        }
        Check.nodes("?a{}#:{#", 1);
        Check.nodes("?a{#}#}", 1);
        Check.nodes("#" + "{".repeat(7) + "!a;".repeat(25) + "#", 0);
    }

    // "The text is WELL-FORMED if no comment is without its second #"
    private static void commentWithoutItsSecondMark() {
        Check.nodes("#", -1);
        Check.nodes("##", 0);
        Check.nodes("###", -1);
        Check.nodes("!a;#", -1);
        Check.nodes("!a;##", 1);
        Check.nodes("#!a;", -1);
        Check.nodes(" ".repeat(159) + "#", -1);
        Check.nodes(" ".repeat(158) + "##", 0);
        Check.nodes("#" + " ".repeat(159), -1);
        Check.nodes("!#x#a;#", -1);
    }

    // "Every character that is neither a space nor in a comment is a TOKEN"
    private static void everyOtherCharacterIsAToken() {
        for (char c = 32; c <= 126; c++) {
            Check.nodes(Character.toString(c), c == ' ' ? 0 : -1);
            Check.nodes("!a" + c + ";", c == ' ' ? 1 : -1);
        }
        Check.nodes(" ".repeat(160), 0);
        Check.nodes(" ".repeat(157) + "!a;", 1);
        Check.nodes(" f # # ( ## a ) ; ", 1);
    }

    // "VARIABLES are the tokens a, b, c, d .., FUNCTIONS the tokens f, g, h" and "A statement is .."
    private static void everyPlaceOfAStatement() {
        places("abcd", "=", "abcd", ";");
        places("fgh", "(", "abcd", ")", ";");
        places("!", "abcd", ";");
        places("?*", "abcd", "{", "}");
        places("?", "abcd", "{", "}", ":", "{", "}");
    }

    /** At each place every code is tried: those that may stand there, and all others. */
    private static void places(String... allowed) {
        for (int place = 0; place < allowed.length; place++) {
            for (char c = 32; c <= 126; c++) {
                StringBuilder text = new StringBuilder();
                for (String signs : allowed) {
                    text.append(signs.charAt(0));
                }
                text.setCharAt(place, c);
                Check.nodes(text.toString(), allowed[place].indexOf(c) < 0 ? -1 : 1);
            }
        }
        StringBuilder cut = new StringBuilder();
        for (String signs : allowed) {
            boolean whole = cut.length() == 0 || allowed.length == 7 && cut.length() == 4;
            Check.nodes(cut.toString(), whole ? Math.min(cut.length(), 1) : -1);
            cut.append(signs.charAt(0));
        }
        Check.nodes(cut.toString(), 1);
    }

    // "its tokens are a row of STATEMENTS (perhaps none)"
    private static void rowOfNoStatements() {
        Check.nodes("", 0);
        Check.nodes(" ", 0);
        Check.nodes("##", 0);
        Check.nodes("!a;", 1);
        Check.nodes(";", -1);
        Check.nodes("!a;;", -1);
        Check.nodes("{}", -1);
        Check.nodes("!a;}", -1);
    }

    // "S any row of statements (perhaps none)"
    private static void rowsWithinStatementsPerhapsNone() {
        Check.nodes("?a{}", 1);
        Check.nodes("?a{ ## }", 1);
        Check.nodes("?a{!a;}", 2);
        Check.nodes("?a{}:{}", 1);
        Check.nodes("?a{!a;}:{}", 2);
        Check.nodes("?a{}:{!a;}", 2);
        Check.nodes("?a{!a;}:{!a;}", 3);
        Check.nodes("*a{}", 1);
        Check.nodes("*a{!a;}", 2);
        Check.nodes("?a{;}", -1);
        Check.nodes("?a{}:{;}", -1);
        Check.nodes("*a{;}", -1);
        Check.nodes("?a{{}}", -1);
    }

    // "its tokens are a row of STATEMENTS": no brace closes what none has opened
    private static void bracesInPairs() {
        String[] texts = {"}", "}!a;", "}?a{", "}*a{}", "!a;}?b{", "?a{}}?b{", "?a{}}:{", "}}}}}}}}", "?a{}:{}}!a;?a{"};
        for (String text : texts) {
            Check.nodes(text, -1);
        }
        Check.nodes("?a{", -1);
        Check.nodes("?a{}", 1);
        Check.nodes("?a{}}", -1);
        Check.nodes("?a{}:{", -1);
        Check.nodes("?a{}:{}", 1);
        Check.nodes("?a{}:{}}", -1);
    }

    // "LIMITS: at most 24 nodes"
    private static void atMost24Nodes() {
        String[] statements = {"a=b;", "f(a);", "!a;", "?a{}", "*a{}"};
        for (String statement : statements) {
            Check.nodes(statement.repeat(23), 23);
            Check.nodes(statement.repeat(24), 24);
            Check.nodes(statement.repeat(25), -1);
        }
        String nest = "?a{".repeat(6) + "}".repeat(6);
        Check.nodes(nest.repeat(4), 24);
        Check.nodes(nest.repeat(4) + "!a;", -1);
        Check.nodes("!a;" + nest.repeat(4), -1);
        Check.nodes("*a{" + "!a;".repeat(23) + "}", 24);
        Check.nodes("*a{" + "!a;".repeat(24) + "}", -1);
        Check.nodes("?a{}:{" + "!a;".repeat(23) + "}", 24);
        Check.nodes("?a{}:{" + "!a;".repeat(24) + "}", -1);
        Check.nodes("!a;".repeat(24) + "#!a;#", 24);
        Check.nodes("!a;".repeat(50), -1);
    }

    // "at most 6 pairs of braces lie within one another"
    private static void atMost6PairsWithinOneAnother() {
        String[] heads = {"?a{", "*a{", "?a{}:{"};
        for (String head : heads) {
            Check.nodes(head.repeat(5) + "}".repeat(5), 5);
            Check.nodes(head.repeat(6) + "}".repeat(6), 6);
            Check.nodes(head.repeat(7) + "}".repeat(7), -1);
            Check.nodes(head.repeat(6) + "!a;" + "}".repeat(6), 7);
            Check.nodes(head.repeat(8) + "}".repeat(8), -1);
        }
        Check.nodes("?a{".repeat(6) + "}:{".repeat(1) + "}".repeat(6), 6);
        Check.nodes("?a{".repeat(5) + "}:{*b{" + "}".repeat(6), 6);
        Check.nodes("?a{".repeat(6) + "}:{*b{" + "}".repeat(7), -1);
        Check.nodes("*a{".repeat(6) + "}".repeat(5) + "*b{}".repeat(4) + "}", 10);
        Check.nodes("*a{}".repeat(24), 24);
        String deepTwice = "?a{".repeat(6) + "}".repeat(6);
        Check.nodes(deepTwice + deepTwice, 12);
    }

    private static void begins(String text, int... places) {
        PathPatcher patcher = Check.typed(text);
        Check.same("nodes of " + text, patcher.nodes(), places.length);
        for (int n = 0; n < places.length; n++) {
            Check.same("begin of node " + n + " of " + text, patcher.begins(n), places[n]);
        }
    }

    // "one for every assignment, call and return, whose SPAN goes from its first token to its semicolon"
    private static void spansOfStatements() {
        begins("a=b;", 0);
        begins(" # # a=b;f(a);##!a;", 5, 9, 16);
        PathPatcher patcher = Check.typed(" #1# f#2#(a) #3#; #4# ");
        patcher.item(true, 0, 0, 0, 0);
        Check.applied(patcher, 1, " #1#  #4# ");
        PathPatcher first = Check.typed("a = b ;c=d;");
        first.item(true, 1, 0, 0, 1);
        Check.applied(first, 1, "c=d;");
        PathPatcher last = Check.typed("!a;! b#;#;");
        last.item(true, 2, 0, 1, 0);
        Check.applied(last, 1, "!a;");
    }

    // "a TEST of v, for every choice and every loop, whose span goes from its first token to v"
    private static void spansOfTests() {
        begins("?a{}", 0);
        begins("# # * a {}", 4);
        begins(" *a{ ?b{!c;}: {!d;}}", 1, 5, 8, 15);
        PathPatcher patcher = Check.typed("?a{}*b{}*a{}?d{}");
        patcher.item(false, 3, 0, 4, 0);
        Check.same("one test for each", Check.matchesOf(patcher), "[0, 65, 128, 195]");
    }

    // "They are numbered 0, 1, .. as they begin in the text"
    private static void nodesAreNumberedAsTheyBegin() {
        begins("!a;!b;", 0, 3);
        begins("?a{!b;}!c;", 0, 3, 7);
        begins("?a{}:{!b;}!c;", 0, 6, 10);
        begins("*a{?b{!c;}:{!d;}}!a;", 0, 3, 6, 12, 17);
        PathPatcher full = Check.typed(FULL);
        for (int n = 0; n < 24; n++) {
            Check.same("begin of " + n, full.begins(n), n < 20 ? 7 * n : 140 + 5 * (n - 20));
        }
    }

    // "The number that is the number of nodes stands for the EXIT, which is no node"
    private static void numberOfTheExit() {
        exitOf("", 0);
        exitOf("!a;", 1);
        exitOf(FULL, 24);
        exitOf("*a{!a;}", 2);
    }

    private static void exitOf(String text, int exit) {
        PathPatcher patcher = Check.typed(text);
        patcher.item(false, 0, 0, 4, 0);
        Check.same("nodes", patcher.nodes(), exit);
        if (exit > 0) {
            Check.same("the last node leads to the exit", patcher.edge(exit - 1, 0), exit);
            Check.same("the last node begins", patcher.begins(exit - 1) >= 0, true);
        }
        Check.same("the exit has no edge 0", patcher.edge(exit, 0), -1);
        Check.same("the exit has no edge 1", patcher.edge(exit, 1), -1);
        Check.same("the exit begins nowhere", patcher.begins(exit), -1);
        Check.same("the exit is not hit", patcher.hit(exit, 0), false);
    }

    // "The node that COMES AFTER a statement is the first one of the next statement in the same row"
    private static void nextStatementInTheSameRow() {
        Check.edges("a=b;!a;", "0>1 1>2");
        Check.edges("f(a);?b{!c;}", "0>1 1>2,3 2>3");
        Check.edges("f(a);*b{!c;}", "0>1 1>2,3 2>3");
        Check.edges("?a{f(a);g(a);}h(a);", "0>1,3 1>2 2>3 3>4");
        Check.edges("*a{f(a);g(a);}h(a);", "0>1,3 1>2 2>0 3>4");
    }

    // "otherwise, for the row of a loop, the loop's test"
    private static void lastOfALoopsRow() {
        Check.edges("*a{f(a);}", "0>1,2 1>0");
        Check.edges("*a{f(a);}g(a);", "0>1,2 1>0 2>3");
        Check.edges("*a{*b{f(a);}}", "0>1,3 1>2,0 2>1");
        Check.edges("*a{?b{f(a);}}", "0>1,3 1>2,0 2>0");
        Check.edges("*a{?b{}}g(a);", "0>1,2 1>0,0 2>3");
    }

    // "for a row of a choice, what comes after the choice"
    private static void lastOfAChoicesRow() {
        Check.edges("?a{f(a);}", "0>1,2 1>2");
        Check.edges("?a{f(a);}:{g(a);}", "0>1,2 1>3 2>3");
        Check.edges("?a{f(a);}:{g(a);}h(a);", "0>1,2 1>3 2>3 3>4");
        Check.edges("?a{?b{f(a);}}h(a);", "0>1,3 1>2,3 2>3 3>4");
        Check.edges("?a{}:{?b{}:{f(a);}}h(a);", "0>3,1 1>3,2 2>3 3>4");
        Check.edges("?a{?a{?a{?a{?a{?a{f(a);}}}}}}h(a);", "0>1,7 1>2,7 2>3,7 3>4,7 4>5,7 5>6,7 6>7 7>8");
        Check.edges("*b{?a{?a{?a{?a{?a{f(a);}}}}}}h(a);", "0>1,7 1>2,0 2>3,0 3>4,0 4>5,0 5>6,0 6>0 7>8");
    }

    // "for the outermost row, the exit"
    private static void lastOfTheOutermostRow() {
        Check.edges("f(a);", "0>1");
        Check.edges("a=b;", "0>1");
        Check.edges("?a{}", "0>1,1");
        Check.edges("*a{}", "0>0,1");
        Check.edges("?a{?b{?c{?d{?a{?b{f(a);}}}}}}", "0>1,7 1>2,7 2>3,7 3>4,7 4>5,7 5>6,7 6>7");
    }

    // "Edge 0 of an assignment or a call leads to what comes after it, of a return to the exit"
    private static void edgeOfAReturn() {
        Check.edges("!a;", "0>1");
        Check.edges("!a;!b;", "0>2 1>2");
        Check.edges("*a{!b;f(a);}", "0>1,3 1>3 2>0");
        Check.edges("?a{!b;}:{f(a);}g(a);", "0>1,2 1>4 2>3 3>4");
    }

    // "Edge 0 of a test leads to the first node of its first row S, or if that has none to the test
    // itself for a loop, to what comes after the statement for a choice"
    private static void edge0OfATest() {
        Check.edges("*a{f(a);}g(a);", "0>1,2 1>0 2>3");
        Check.edges("*a{}g(a);", "0>0,1 1>2");
        Check.edges("*a{ ## }g(a);", "0>0,1 1>2");
        Check.edges("?a{f(a);}g(a);", "0>1,2 1>2 2>3");
        Check.edges("?a{}g(a);", "0>1,1 1>2");
        Check.edges("?a{}:{f(a);}g(a);", "0>2,1 1>2 2>3");
        Check.edges("*b{?a{}}", "0>1,2 1>0,0");
        Check.edges("*b{*a{}}", "0>1,2 1>1,0");
    }

    // "Edge 1 of a loop's test leads to what comes after the loop"
    private static void edge1OfALoop() {
        Check.edges("*a{}", "0>0,1");
        Check.edges("*a{}*b{}", "0>0,1 1>1,2");
        Check.edges("*a{*b{}*c{}}", "0>1,3 1>1,2 2>2,0");
        Check.edges("?a{*b{}}:{*c{}}!d;", "0>1,2 1>1,3 2>2,3 3>4");
    }

    // "of a choice's, to the first node of its second row, or if that is not there or has none to
    // what comes after the choice"
    private static void edge1OfAChoice() {
        Check.edges("?a{f(a);}:{g(a);}h(a);", "0>1,2 1>3 2>3 3>4");
        Check.edges("?a{f(a);}:{}h(a);", "0>1,2 1>2 2>3");
        Check.edges("?a{f(a);}h(a);", "0>1,2 1>2 2>3");
        Check.edges("?a{}:{}h(a);", "0>1,1 1>2");
        Check.edges("?a{}:{}", "0>1,1");
        Check.edges("?a{?b{}:{f(a);}}:{g(a);}", "0>1,3 1>4,2 2>4 3>4");
        Check.edges("*a{?b{f(a);}:{}}", "0>1,3 1>2,0 2>0");
    }
}
