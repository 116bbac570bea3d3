/** Promise 16: apply. */
public final class ApplyTest {
    public static void main(String[] args) {
        refusalsInOrder();
        keptItemsEditNothing();
        spansAreTakenOut();
        newStatementsStandBehind();
        newStatementsStandInPlace();
        textsOfEachKind();
        commentsAndSpacesStay();
        editsOfManyNodes();
        conflictsOfMatches();
        conflictsOfItems();
        sameEditsAreNoConflict();
        hitsWithoutAnEditAreNoConflict();
        limitOfText();
        limitOfNodes();
        limitsInOrder();
        scriptStays();
        newStatementsAfterASearch();
        Check.end();
    }

    private static void refusalsInOrder() {
        PathPatcher patcher = Check.typed("f(a)");
        Check.applied(patcher, -1, "f(a)");
        patcher.type(';');
        Check.applied(patcher, -2, "f(a);");
        patcher.item(true, 0, 0, 4, 0);
        patcher.dots(-1, 0, 0, 0);
        Check.applied(patcher, -2, "f(a);");
        patcher.type('}');
        Check.applied(patcher, -1, "f(a);}");
    }

    private static void keptItemsEditNothing() {
        PathPatcher patcher = Check.typed("f(a); g(a);");
        patcher.item(false, 0, 0, 4, 0);
        patcher.item(false, 0, 1, 4, 0);
        Check.same("matches", patcher.matches(), 1);
        Check.applied(patcher, 0, "f(a); g(a);");
    }

    private static void spansAreTakenOut() {
        PathPatcher patcher = Check.typed(" f ( #x# a ) #;# ; #y# g(a); f(b);#z#");
        patcher.item(true, 0, 0, 4, 0);
        Check.applied(patcher, 2, "  #y# g(a); #z#");
        Check.applied(patcher, 0, "  #y# g(a); #z#");
        Check.retype(patcher, "f(a);");
        Check.applied(patcher, 1, "");
        Check.same("nodes", patcher.nodes(), 0);
        Check.retype(patcher, "*a{?b{f(c);}:{f(d);}}");
        Check.applied(patcher, 2, "*a{?b{}:{}}");
        Check.same("edge of the new text", patcher.edge(1, 0), 0);
    }

    private static void newStatementsStandBehind() {
        PathPatcher patcher = Check.typed("f( a ) ; g(b);");
        patcher.item(false, 0, 0, 4, 0);
        patcher.plus(0, 2, 4, 0);
        Check.applied(patcher, 1, "f( a ) ;h(a); g(b);");
        Check.applied(patcher, 1, "f( a ) ;h(a);h(a); g(b);");
        Check.same("nodes", patcher.nodes(), 4);
    }

    private static void newStatementsStandInPlace() {
        PathPatcher patcher = Check.typed("?a{ f(b)#x#; }f(c);");
        patcher.item(true, 0, 0, 4, 0);
        patcher.plus(0, 1, 4, 0);
        patcher.plus(1, 0, 4, 3);
        Check.applied(patcher, 2, "?a{ g(b);b=d; }g(c);c=d;");
    }

    private static void textsOfEachKind() {
        PathPatcher patcher = Check.typed("a=b;?c{}f(d);");
        patcher.item(true, 1, 0, 4, 5);
        patcher.plus(1, 0, 5, 4);
        patcher.plus(2, 0, 5, 0);
        patcher.dots(-1, 0, 0, 0);
        patcher.item(true, 0, 0, 6, 0);
        patcher.plus(0, 2, 6, 0);
        patcher.plus(0, 1, 2, 0);
        Check.applied(patcher, 2, "b=a;!b;?c{}h(d);g(c);");
    }

    private static void commentsAndSpacesStay() {
        PathPatcher patcher = Check.typed("# f(a); # f(a);# g # g(a) ; #f(a);#");
        patcher.item(true, 0, 0, 0, 0);
        patcher.item(false, 0, 1, 0, 0);
        patcher.plus(2, 0, 0, 0);
        Check.applied(patcher, 2, "# f(a); # # g # g(a) ;!a; #f(a);#");
    }

    private static void editsOfManyNodes() {
        PathPatcher patcher = Check.typed("!a;".repeat(24));
        patcher.item(true, 2, 0, 4, 0);
        patcher.plus(0, 0, 4, 0);
        Check.applied(patcher, 24, "f(a);".repeat(24));
        patcher.forget();
        patcher.item(true, 0, 0, 4, 0);
        Check.applied(patcher, 24, "");
    }

    private static void conflictsOfMatches() {
        PathPatcher patcher = Check.typed("?c{f(a);}:{f(b);}g(c);");
        patcher.item(true, 0, 0, 4, 0);
        patcher.item(false, 0, 1, 5, 0);
        patcher.plus(1, 0, 5, 4);
        Check.same("matches", patcher.matches(), 2);
        Check.applied(patcher, -3, "?c{f(a);}:{f(b);}g(c);");
        Check.same("matches after it", patcher.matches(), 2);
        Check.retype(patcher, "?c{f(a);}:{f(a);}g(c);");
        Check.applied(patcher, 3, "?c{}:{}g(c);c=a;");
    }

    private static void conflictsOfItems() {
        PathPatcher patcher = Check.typed("f(a);f(a);f(a);");
        patcher.item(true, 0, 0, 4, 0);
        patcher.item(false, 0, 0, 4, 0);
        patcher.plus(0, 1, 4, 0);
        Check.same("hits", Check.hitsOf(patcher), "0/0 1/0 1/1 2/1");
        Check.applied(patcher, -3, "f(a);f(a);f(a);");
        patcher.forget();
        patcher.item(true, 0, 0, 4, 0);
        patcher.plus(0, 1, 4, 0);
        patcher.item(false, 0, 0, 4, 0);
        patcher.plus(0, 1, 4, 0);
        Check.applied(patcher, -3, "f(a);f(a);f(a);");
        patcher.forget();
        patcher.item(false, 0, 0, 4, 0);
        patcher.plus(0, 1, 4, 0);
        patcher.item(false, 0, 0, 4, 0);
        patcher.plus(0, 1, 4, 0);
        patcher.plus(0, 1, 4, 0);
        Check.applied(patcher, -3, "f(a);f(a);f(a);");
    }

    private static void sameEditsAreNoConflict() {
        PathPatcher patcher = Check.typed("f(a);f(a);f(a);");
        patcher.item(true, 0, 0, 4, 0);
        patcher.plus(0, 1, 4, 0);
        patcher.item(true, 0, 0, 5, 0);
        patcher.plus(0, 1, 5, 0);
        Check.applied(patcher, 3, "g(a);g(a);g(a);");
        Check.retype(patcher, "f(a);f(b);f(a);");
        Check.applied(patcher, 3, "g(a);g(b);g(a);");
    }

    private static void hitsWithoutAnEditAreNoConflict() {
        PathPatcher patcher = Check.typed("f(a);f(a);f(a);");
        patcher.item(false, 0, 0, 4, 0);
        patcher.item(true, 0, 0, 4, 0);
        Check.same("hits", Check.hitsOf(patcher), "0/0 1/0 1/1 2/1");
        Check.applied(patcher, 2, "f(a);");
    }

    private static void limitOfText() {
        PathPatcher patcher = Check.typed("!a;" + " ".repeat(152));
        patcher.item(false, 2, 0, 4, 0);
        patcher.plus(0, 0, 4, 0);
        Check.applied(patcher, 1, "!a;f(a);" + " ".repeat(152));
        Check.same("length", patcher.length(), 160);
        Check.applied(patcher, -4, "!a;f(a);" + " ".repeat(152));
        PathPatcher full = Check.typed("! a;" + " ".repeat(156));
        full.item(true, 2, 0, 4, 0);
        full.plus(1, 0, 4, 0);
        Check.applied(full, 1, "a=a;" + " ".repeat(156));
        PathPatcher over = Check.typed("!a;" + " ".repeat(157));
        over.item(true, 2, 0, 4, 0);
        over.plus(1, 0, 4, 0);
        Check.applied(over, -4, "!a;" + " ".repeat(157));
    }

    private static void limitOfNodes() {
        PathPatcher patcher = Check.typed("!a;".repeat(23) + "f(b);");
        patcher.item(false, 0, 0, 4, 0);
        patcher.plus(2, 0, 4, 0);
        Check.applied(patcher, -5, "!a;".repeat(23) + "f(b);");
        Check.retype(patcher, "!a;".repeat(22) + "f(b);");
        Check.applied(patcher, 1, "!a;".repeat(22) + "f(b);!b;");
        Check.same("nodes", patcher.nodes(), 24);
        PathPatcher swap = Check.typed("!a;".repeat(23) + "f(b);");
        swap.item(true, 0, 0, 4, 0);
        swap.plus(2, 0, 4, 0);
        Check.applied(swap, 1, "!a;".repeat(23) + "!b;");
        swap.forget();
        swap.item(true, 2, 0, 1, 0);
        swap.plus(2, 0, 0, 0);
        swap.plus(2, 0, 0, 0);
        Check.applied(swap, -5, "!a;".repeat(23) + "!b;");
    }

    private static void limitsInOrder() {
        String text = "!a;".repeat(24);
        PathPatcher patcher = Check.typed(text);
        patcher.item(false, 2, 0, 4, 0);
        patcher.plus(0, 0, 4, 0);
        Check.applied(patcher, -4, text);
        Check.retype(patcher, "?a{f(a);}:{f(b);}g(c);" + " ".repeat(138));
        patcher.forget();
        patcher.item(false, 0, 0, 4, 0);
        patcher.item(false, 0, 1, 5, 0);
        patcher.plus(1, 0, 5, 4);
        Check.same("a conflict comes first", patcher.apply(), -3);
    }

    private static void scriptStays() {
        PathPatcher patcher = Check.typed("f(a);");
        patcher.item(true, 0, 0, 4, 0);
        patcher.plus(0, 0, 4, 0);
        patcher.plus(0, 1, 4, 0);
        Check.applied(patcher, 1, "f(a);g(a);");
        Check.applied(patcher, 1, "f(a);g(a);g(a);");
        Check.same("item", patcher.item(false, 0, 1, 4, 0), 2);
        Check.applied(patcher, 1, "f(a);g(a);g(a);g(a);");
    }

    private static void newStatementsAfterASearch() {
        PathPatcher patcher = Check.typed("f(a);");
        patcher.item(false, 0, 0, 4, 0);
        Check.same("matches", patcher.matches(), 1);
        patcher.plus(0, 1, 4, 0);
        Check.same("matches", patcher.matches(), 1);
        patcher.plus(0, 2, 4, 0);
        Check.applied(patcher, 1, "f(a);g(a);h(a);");
    }
}
