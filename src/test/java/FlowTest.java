/** Promises 6 to 8: nodes, edge and begins. */
public final class FlowTest {
    public static void main(String[] args) {
        wellFormedTexts();
        textsThatAreNot();
        comments();
        limitOfNodes();
        limitOfBraces();
        edgesOfRows();
        edgesOfChoices();
        edgesOfLoops();
        edgesOfNestedRows();
        edgesThatAreNone();
        placesOfSpans();
        answersFollowTheText();
        Check.end();
    }

    private static void wellFormedTexts() {
        Check.nodes("", 0);
        Check.nodes("   ", 0);
        Check.nodes("a=b;", 1);
        Check.nodes("d=d;c=a;", 2);
        Check.nodes("f(a);g(b);h(d);", 3);
        Check.nodes("!c;", 1);
        Check.nodes("!c;!c;", 2);
        Check.nodes("?a{}", 1);
        Check.nodes("?a{}:{}", 1);
        Check.nodes("*a{}", 1);
        Check.nodes(" ? a { ! b ; } : { f ( c ) ; } ", 3);
        Check.nodes("*a{?b{*c{}}:{}}f(a);", 4);
    }

    private static void textsThatAreNot() {
        String[] texts = {
            "a", "a=", "a=b", "=b;", "a=b;;", ";", "a==b;", "e=a;", "a=e;", "a=f;", "A=b;", "ab=c;",
            "f", "f(", "f(a", "f(a)", "f(a;", "f a);", "f();", "f(f);", "f(ab);", "i(a);", "a(b);",
            "!", "!a", "!;", "!f;", "a!;", "!!a;", "?", "?a", "?a{", "?{}", "?f{}", "?a}", "?a;{}",
            "?a{};", "?a{}}", "?a{}:", "?a{}:{", "?a{}:}", "?a{}:f(a);", "?a{}:{}:{}", "?a:{}",
            "*", "*a", "*a{", "*{}", "*a{}:{}", "{}", "{", "}", "}{", "f(a);}", ":{}", "f(a):{};",
            "?a{*b{}:{}}", "?a{f(a)}", "?a{f(a);", "x", "f(a);\"", "1", "f(a);?a{f(a);}x"};
        for (String text : texts) {
            Check.nodes(text, -1);
        }
    }

    private static void comments() {
        Check.nodes("##", 0);
        Check.nodes("#", -1);
        Check.nodes("###", -1);
        Check.nodes("####", 0);
        Check.nodes("#{x;?#", 0);
        Check.nodes("f#(#(#x#b#)#)#)#;", 1);
        Check.nodes("f#(#(#x#b#)#)#)#;#", -1);
        Check.nodes("f#(#(#b#)#;", -1);
        Check.nodes("f(a);#f(b);", -1);
        Check.nodes("f(a);#f(b);#", 1);
        Check.nodes("f(a)#;#", -1);
        Check.same("begins behind a comment", Check.typed("#f(a);# f(b);").begins(0), 8);
    }

    private static void limitOfNodes() {
        Check.nodes("!a;".repeat(24), 24);
        Check.nodes("!a;".repeat(25), -1);
        Check.nodes("?a{}".repeat(24), 24);
        Check.nodes("?a{}".repeat(25), -1);
        Check.nodes("?a{" + "!a;".repeat(23) + "}", 24);
        Check.nodes("?a{" + "!a;".repeat(24) + "}", -1);
        Check.nodes("?a{" + "!a;".repeat(12) + "}:{" + "!b;".repeat(12) + "}", -1);
    }

    private static void limitOfBraces() {
        Check.nodes("?a{".repeat(6) + "}".repeat(6), 6);
        Check.nodes("?a{".repeat(7) + "}".repeat(7), -1);
        Check.nodes("*a{".repeat(6) + "}".repeat(6), 6);
        Check.nodes("*a{".repeat(7) + "}".repeat(7), -1);
        Check.nodes("?a{".repeat(6) + "}:{}".repeat(6), 6);
        Check.nodes("?a{}:{".repeat(6) + "}".repeat(6), 6);
        Check.nodes("?a{}:{".repeat(7) + "}".repeat(7), -1);
        Check.nodes("?a{".repeat(5) + "}:{?a{}" + "}".repeat(5), 6);
        Check.nodes("?a{".repeat(6) + "}:{?a{}" + "}".repeat(6), -1);
        Check.nodes("?a{}".repeat(8), 8);
    }

    private static void edgesOfRows() {
        Check.edges("", "");
        Check.edges("a=b;f(a);h(b);", "0>1 1>2 2>3");
        Check.edges("!a;f(a);", "0>2 1>2");
    }

    private static void edgesOfChoices() {
        Check.edges("?a{}", "0>1,1");
        Check.edges("?a{}f(a);", "0>1,1 1>2");
        Check.edges("?a{f(a);}", "0>1,2 1>2");
        Check.edges("?a{}:{f(a);}", "0>2,1 1>2");
        Check.edges("?a{f(a);}:{}g(a);", "0>1,2 1>2 2>3");
        Check.edges("?a{f(a);g(a);}:{h(a);!a;}g(a);", "0>1,3 1>2 2>5 3>4 4>6 5>6");
    }

    private static void edgesOfLoops() {
        Check.edges("*a{}", "0>0,1");
        Check.edges("*a{}f(a);", "0>0,1 1>2");
        Check.edges("*a{f(a);g(a);}h(a);", "0>1,3 1>2 2>0 3>4");
        Check.edges("*a{!a;}", "0>1,2 1>2");
    }

    private static void edgesOfNestedRows() {
        Check.edges("*a{?b{}:{}}", "0>1,2 1>0,0");
        Check.edges("*a{?b{f(a);}}", "0>1,3 1>2,0 2>0");
        Check.edges("*a{*b{}}", "0>1,2 1>1,0");
        Check.edges("?a{*b{}}:{*c{}}", "0>1,2 1>1,3 2>2,3");
        Check.edges("?a{?b{?c{f(a);}}}g(b);", "0>1,4 1>2,4 2>3,4 3>4 4>5");
        Check.edges("*a{?b{?c{f(a);}:{!a;}}}g(b);", "0>1,5 1>2,0 2>3,4 3>0 4>6 5>6");
        Check.edges("*a{*a{*a{*a{*a{*a{}}}}}}", "0>1,6 1>2,0 2>3,1 3>4,2 4>5,3 5>5,4");
        Check.edges("?a{?a{?a{?a{?a{?a{f(a);}}}}}}", "0>1,7 1>2,7 2>3,7 3>4,7 4>5,7 5>6,7 6>7");
        Check.edges("?a{?a{?a{?a{?a{?a{f(a);}}}}}}!a;", "0>1,7 1>2,7 2>3,7 3>4,7 4>5,7 5>6,7 6>7 7>8");
        Check.edges("*a{?a{?a{?a{?a{?a{f(a);}}}}}}!a;", "0>1,7 1>2,0 2>3,0 3>4,0 4>5,0 5>6,0 6>0 7>8");
    }

    private static void edgesThatAreNone() {
        PathPatcher patcher = Check.typed("?a{f(a);}!a;");
        int[] none = {-1, 3, 24, 64, Integer.MAX_VALUE, Integer.MIN_VALUE};
        for (int n : none) {
            Check.same("edge 0 of " + n, patcher.edge(n, 0), -1);
            Check.same("edge 1 of " + n, patcher.edge(n, 1), -1);
            Check.same("begin of " + n, patcher.begins(n), -1);
        }
        int[] noEdge = {-1, 2, 3, Integer.MAX_VALUE, Integer.MIN_VALUE};
        for (int k : noEdge) {
            Check.same("edge " + k, patcher.edge(0, k), -1);
        }
        Check.same("edge 1 of a call", patcher.edge(1, 1), -1);
        Check.same("edge 1 of a return", patcher.edge(2, 1), -1);
        Check.same("edge 1 of an assignment", Check.typed("a=b;").edge(0, 1), -1);
        PathPatcher broken = Check.typed("?a{f(a);}!a");
        Check.same("edge of no program", broken.edge(0, 0), -1);
        Check.same("begin in no program", broken.begins(0), -1);
    }

    private static void placesOfSpans() {
        PathPatcher patcher = Check.typed(" # # ? a{f #x#(a);} : { !a; }*b{}a=b;");
        int[] places = {5, 9, 24, 29, 33};
        Check.same("nodes", patcher.nodes(), places.length);
        for (int n = 0; n < places.length; n++) {
            Check.same("begin of " + n, patcher.begins(n), places[n]);
        }
    }

    private static void answersFollowTheText() {
        PathPatcher patcher = Check.typed("f(a)");
        Check.same("without its semicolon", patcher.nodes(), -1);
        patcher.type(';');
        Check.same("with it", patcher.nodes(), 1);
        Check.same("edge to the exit", patcher.edge(0, 0), 1);
        Check.same("refused character", patcher.type((char) 127), false);
        Check.same("still well-formed", patcher.nodes(), 1);
        patcher.type('x');
        Check.same("with a wrong token", patcher.nodes(), -1);
        patcher.clear();
        Check.same("cleared", patcher.nodes(), 0);
        Check.same("edge after clear", patcher.edge(0, 0), -1);
    }
}
