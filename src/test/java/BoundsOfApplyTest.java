/** Promise 16 and the terms "edit" and "conflict": every case at the edge, on both sides of it. */
public final class BoundsOfApplyTest {
    public static void main(String[] args) {
        keptItemWithoutNewStatements();
        takenOutWithoutNewStatements();
        oneNewStatement();
        twoNewStatements();
        textsOfNewStatements();
        unknownsAreReplacedAsBound();
        oneEditByManyMatches();
        oneEditByManyItems();
        conflictOfTexts();
        conflictOfOut();
        conflictOfHowMany();
        conflictOfMatches();
        allEditsAtOnce();
        answersHowManyNodesHadOne();
        scriptStays();
        commentsInASpan();
        textThatBecomesEmpty();
        applyWhenNotWellFormed();
        applyWhenTheScriptHasNoItem();
        applyWhenDotsAreBehindTheLast();
        applyWhenThereIsAConflict();
        applyToMoreThan160Characters();
        applyToMoreThan160ByManyEdits();
        applyToMoreThan24Nodes();
        applyToMoreThan24NodesByManyEdits();
        bothLimitsAreMet();
        Check.end();
    }

    private static PathPatcher item(String text, boolean out, int op, int x) {
        PathPatcher patcher = Check.typed(text);
        patcher.item(out, op, 0, x, x);
        return patcher;
    }

    // "THE EDIT of a node that is hit as an item with NEW statements, or as one taken OUT": else none
    private static void keptItemWithoutNewStatements() {
        Check.applied(item("f(a);", false, 0, 4), 0, "f(a);");
        Check.applied(item("?a{}", false, 3, 4), 0, "?a{}");
        Check.applied(item("", false, 0, 4), 0, "");
        PathPatcher two = item("f(a);g(a);", false, 0, 4);
        two.item(true, 0, 1, 4, 0);
        Check.applied(two, 1, "f(a);");
    }

    // "its span is taken out of the text, if the item is taken out"
    private static void takenOutWithoutNewStatements() {
        Check.applied(item("a=a;", true, 1, 4), 1, "");
        Check.applied(item("!a;", true, 2, 4), 1, "");
        Check.applied(item(" f(a); ", true, 0, 4), 1, "  ");
        Check.applied(item("?a{f(a);}:{f(a);}", true, 0, 4), 2, "?a{}:{}");
    }

    // "with up to 2 NEW statements": one, behind the span or in its place
    private static void oneNewStatement() {
        PathPatcher kept = item("f(a) ; !b;", false, 0, 4);
        kept.plus(0, 1, 4, 0);
        Check.applied(kept, 1, "f(a) ;g(a); !b;");
        PathPatcher out = item("f(a) ; !b;", true, 0, 4);
        out.plus(0, 1, 4, 0);
        Check.applied(out, 1, "g(a); !b;");
    }

    // "the texts of the new statements, one after the other"
    private static void twoNewStatements() {
        PathPatcher kept = item("f(a) ; !b;", false, 0, 4);
        kept.plus(0, 1, 4, 0);
        kept.plus(0, 2, 4, 0);
        kept.plus(0, 0, 4, 0);
        Check.applied(kept, 1, "f(a) ;g(a);h(a); !b;");
        PathPatcher out = item("f(a) ; !b;", true, 0, 4);
        out.plus(0, 2, 4, 0);
        out.plus(0, 1, 4, 0);
        Check.applied(out, 1, "h(a);g(a); !b;");
    }

    // "Texts are k(v); v=w; and !v; without spaces."
    private static void textsOfNewStatements() {
        for (int x = 0; x <= 3; x++) {
            char v = "abcd".charAt(x);
            for (int f = 0; f <= 2; f++) {
                PathPatcher call = item("!a;", true, 2, 0);
                call.plus(0, f, x, 0);
                Check.applied(call, 1, "fgh".charAt(f) + "(" + v + ");");
            }
            for (int y = 0; y <= 3; y++) {
                PathPatcher assignment = item("!a;", true, 2, 0);
                assignment.plus(1, 0, x, y);
                Check.applied(assignment, 1, v + "=" + "abcd".charAt(y) + ";");
            }
            PathPatcher back = item("f(a);", true, 0, 0);
            back.plus(2, 0, x, 0);
            Check.applied(back, 1, "!" + v + ";");
        }
    }

    // "unknowns replaced as they are bound in the match"
    private static void unknownsAreReplacedAsBound() {
        for (int binding = 0; binding < 64; binding++) {
            char x = "abcd".charAt(binding % 4);
            char y = "abcd".charAt(binding / 4 % 4);
            char z = "abcd".charAt(binding / 16);
            PathPatcher patcher = Check.typed(x + "=" + y + ";f(" + z + ");");
            patcher.item(true, 1, 0, 4, 5);
            patcher.item(true, 0, 0, 6, 0);
            patcher.plus(1, 0, 6, 4);
            patcher.plus(1, 0, 5, 3);
            Check.applied(patcher, 2, z + "=" + x + ";" + y + "=d;");
        }
    }

    // "If the edits of one node (by several matches ..) are not all the same": here they are
    private static void oneEditByManyMatches() {
        PathPatcher patcher = Check.typed("f(a);f(b);g(c);");
        patcher.item(false, 0, 0, 4, 0);
        patcher.dots(-1, 0, 0, 0);
        patcher.item(true, 0, 1, 5, 0);
        patcher.plus(2, 0, 5, 0);
        Check.same("matches", patcher.matches(), 2);
        Check.applied(patcher, 1, "f(a);f(b);!c;");
    }

    // "If the edits of one node (by several .. items) are not all the same": here they are
    private static void oneEditByManyItems() {
        PathPatcher patcher = Check.typed("f(a);f(a);f(a);");
        for (int i = 0; i < 2; i++) {
            patcher.item(false, 0, 0, 4, 0);
            patcher.plus(0, 1, 4, 0);
        }
        Check.same("hits", Check.hitsOf(patcher), "0/0 1/0 1/1 2/1");
        Check.applied(patcher, 3, "f(a);g(a);f(a);g(a);f(a);g(a);");
        PathPatcher bound = Check.typed("f(b);f(b);f(b);");
        bound.item(true, 0, 0, 4, 0);
        bound.plus(2, 0, 4, 0);
        bound.item(true, 0, 0, 1, 0);
        bound.plus(2, 0, 1, 0);
        Check.applied(bound, 3, "!b;!b;!b;");
    }

    /** Two items that both hit the node in the middle of three, with these new functions each. */
    private static PathPatcher twice(boolean out0, int[] new0, boolean out1, int[] new1) {
        PathPatcher patcher = Check.typed("f(a);f(a);f(a);");
        patcher.item(out0, 0, 0, 4, 0);
        for (int f : new0) {
            patcher.plus(0, f, 4, 0);
        }
        patcher.item(out1, 0, 0, 4, 0);
        for (int f : new1) {
            patcher.plus(0, f, 4, 0);
        }
        return patcher;
    }

    private static void conflict(PathPatcher patcher) {
        Check.applied(patcher, -3, "f(a);f(a);f(a);");
    }

    // "If the edits of one node .. are not all the same, there is a CONFLICT": other texts
    private static void conflictOfTexts() {
        conflict(twice(true, new int[] {1}, true, new int[] {2}));
        conflict(twice(false, new int[] {1}, false, new int[] {2}));
        conflict(twice(false, new int[] {1, 2}, false, new int[] {2, 1}));
        conflict(twice(false, new int[] {1, 1}, false, new int[] {1, 2}));
        Check.applied(twice(true, new int[] {1, 2}, true, new int[] {1, 2}), 3, "g(a);h(a);".repeat(3));
        Check.applied(twice(true, new int[] {}, true, new int[] {}), 3, "");
    }

    // .. the span goes with one and stays with the other
    private static void conflictOfOut() {
        conflict(twice(true, new int[] {1}, false, new int[] {1}));
        conflict(twice(false, new int[] {1}, true, new int[] {1}));
        conflict(twice(true, new int[] {}, false, new int[] {1}));
        conflict(twice(false, new int[] {1}, true, new int[] {}));
        Check.applied(twice(false, new int[] {}, true, new int[] {}), 2, "f(a);");
        Check.applied(twice(true, new int[] {}, false, new int[] {}), 2, "f(a);");
    }

    // .. one has more new statements than the other
    private static void conflictOfHowMany() {
        conflict(twice(false, new int[] {1}, false, new int[] {1, 1}));
        conflict(twice(false, new int[] {1, 1}, false, new int[] {1}));
        conflict(twice(true, new int[] {}, true, new int[] {1}));
        Check.applied(twice(false, new int[] {}, false, new int[] {1, 2}), 2, "f(a);" + "f(a);g(a);h(a);".repeat(2));
        Check.applied(twice(false, new int[] {1, 2}, false, new int[] {}), 2, "f(a);g(a);h(a);".repeat(2) + "f(a);");
    }

    // .. one match binds other variables than another
    private static void conflictOfMatches() {
        PathPatcher patcher = Check.typed("f(a);f(b);g(c);");
        patcher.item(false, 0, 0, 4, 0);
        patcher.dots(-1, 0, 0, 0);
        patcher.item(false, 0, 1, 5, 0);
        patcher.plus(2, 0, 4, 0);
        Check.applied(patcher, -3, "f(a);f(b);g(c);");
        Check.retype(patcher, "f(b);f(b);g(c);");
        Check.applied(patcher, 1, "f(b);f(b);g(c);!b;");
    }

    // "Makes all edits at once": what is put in is not matched in the same call
    private static void allEditsAtOnce() {
        PathPatcher patcher = item("f(a);", false, 0, 4);
        patcher.plus(0, 0, 4, 0);
        for (int count = 1; count < 16; count *= 2) {
            Check.applied(patcher, count, "f(a);".repeat(2 * count));
        }
        PathPatcher swap = Check.typed("a=b;b=a;");
        swap.item(true, 1, 0, 4, 5);
        swap.plus(1, 0, 5, 4);
        Check.applied(swap, 2, "b=a;a=b;");
    }

    // "answers how many nodes had one"
    private static void answersHowManyNodesHadOne() {
        Check.applied(item("!b;!b;", true, 2, 0), 0, "!b;!b;");
        Check.applied(item("!b;!a;", true, 2, 0), 1, "!b;");
        Check.applied(item("!a;".repeat(24), true, 2, 0), 24, "");
        // Two edits of one node that are the same are one.
        Check.applied(twice(true, new int[] {}, true, new int[] {}), 3, "");
        PathPatcher same = item("f(a);!b;", true, 0, 0);
        same.plus(0, 0, 0, 0);
        Check.applied(same, 1, "f(a);!b;");
    }

    // "(the script stays"
    private static void scriptStays() {
        PathPatcher patcher = item("!a;", false, 2, 4);
        patcher.plus(0, 0, 4, 0);
        Check.applied(patcher, 1, "!a;f(a);");
        Check.applied(patcher, 1, "!a;f(a);f(a);");
        Check.same("the new statement stays", patcher.plus(0, 1, 4, 0), true);
        Check.same("and counts", patcher.plus(0, 1, 4, 0), false);
        Check.same("the item stays", patcher.item(false, 0, 0, 4, 0), 2);
    }

    // "comments in a span that is taken out go with it)"
    private static void commentsInASpan() {
        Check.applied(item("#1#f#2#(#3#a#4#)#5#;#6#", true, 0, 4), 1, "#1##6#");
        Check.applied(item("#1#f#2#(#3#a#4#)#5#;#6#", false, 0, 4), 0, "#1#f#2#(#3#a#4#)#5#;#6#");
        PathPatcher kept = item("#1#!#2#a#;#;#6#", false, 2, 4);
        kept.plus(1, 0, 4, 4);
        Check.applied(kept, 1, "#1#!#2#a#;#;a=a;#6#");
        PathPatcher out = item("#1#!#2#a#;#;#6#", true, 2, 4);
        out.plus(1, 0, 4, 4);
        Check.applied(out, 1, "#1#a=a;#6#");
    }

    private static void textThatBecomesEmpty() {
        PathPatcher patcher = item("f(a);f(b);", true, 0, 4);
        Check.applied(patcher, 2, "");
        Check.same("length", patcher.length(), 0);
        Check.same("nodes", patcher.nodes(), 0);
        Check.same("matches", patcher.matches(), 0);
        Check.applied(patcher, 0, "");
    }

    // "-1 when the text is not well-formed"
    private static void applyWhenNotWellFormed() {
        PathPatcher patcher = item("f(a)", true, 0, 4);
        Check.applied(patcher, -1, "f(a)");
        patcher.type(';');
        patcher.type('#');
        Check.applied(patcher, -1, "f(a);#");
        patcher.type('#');
        Check.applied(patcher, 1, "##");
        Check.applied(item("f(a);".repeat(25), true, 0, 4), -1, "f(a);".repeat(25));
        Check.applied(item("f(a);".repeat(24), true, 0, 4), 24, "");
        Check.applied(item("?a{".repeat(7) + "}".repeat(7), false, 3, 4), -1, "?a{".repeat(7) + "}".repeat(7));
        Check.applied(item("?a{".repeat(6) + "}".repeat(6), false, 3, 4), 0, "?a{".repeat(6) + "}".repeat(6));
    }

    // "-2 when the script has no item"
    private static void applyWhenTheScriptHasNoItem() {
        PathPatcher patcher = Check.typed("f(a);");
        Check.applied(patcher, -2, "f(a);");
        patcher.item(true, 0, 0, 7, 0);
        Check.applied(patcher, -2, "f(a);");
        patcher.item(true, 0, 0, 6, 0);
        Check.applied(patcher, 1, "");
        patcher.forget();
        Check.applied(patcher, -2, "");
        Check.applied(new PathPatcher(), -2, "");
    }

    // "-2 when the script has .. dots behind the last one"
    private static void applyWhenDotsAreBehindTheLast() {
        PathPatcher patcher = item("f(a);!a;", true, 0, 4);
        patcher.dots(-1, 0, 0, 0);
        Check.applied(patcher, -2, "f(a);!a;");
        patcher.item(false, 2, 0, 4, 0);
        Check.applied(patcher, 1, "!a;");
        PathPatcher six = Check.typed("?a{}".repeat(6));
        for (int i = 0; i < 6; i++) {
            six.item(false, 3, 0, 0, 0);
        }
        Check.same("six items", six.apply(), 0);
        six.dots(3, 0, 0, 0);
        Check.same("dots behind the sixth", six.apply(), -2);
    }

    // "-3 when there is a conflict"
    private static void applyWhenThereIsAConflict() {
        PathPatcher patcher = Check.typed("f(a);f(b);!c;");
        patcher.item(false, 0, 0, 4, 0);
        patcher.dots(-1, 0, 0, 0);
        patcher.item(true, 2, 0, 5, 0);
        patcher.plus(2, 0, 4, 0);
        Check.applied(patcher, -3, "f(a);f(b);!c;");
        Check.applied(patcher, -3, "f(a);f(b);!c;");
        Check.retype(patcher, "f(a);!c;f(b);!d;");
        Check.applied(patcher, 2, "f(a);!a;f(b);!b;");
        Check.retype(patcher, "?d{f(a);!c;}:{f(b);!d;}");
        Check.applied(patcher, 2, "?d{f(a);!a;}:{f(b);!b;}");
    }

    // "-4 when the text would have more than 160 characters"
    private static void applyToMoreThan160Characters() {
        String[] added = {"h(a);", "a=a;", "!a;"};
        int[] ops = {0, 1, 2};
        for (int i = 0; i < 3; i++) {
            for (int over = -1; over <= 1; over++) {
                String spaces = " ".repeat(160 - 5 - added[i].length() + over);
                PathPatcher kept = item("f(a);" + spaces, false, 0, 0);
                kept.plus(ops[i], 2, 0, 0);
                boolean fits = over <= 0;
                Check.applied(kept, fits ? 1 : -4, "f(a);" + (fits ? added[i] : "") + spaces);
            }
        }
        for (int over = 0; over <= 1; over++) {
            String spaces = " ".repeat(150 + over);
            PathPatcher out = item("!a;" + spaces, true, 2, 0);
            out.plus(0, 0, 0, 0);
            out.plus(0, 1, 0, 0);
            Check.applied(out, over == 0 ? 1 : -4, (over == 0 ? "f(a);g(a);" : "!a;") + spaces);
        }
        Check.applied(item("f(a);" + " ".repeat(155), true, 0, 0), 1, " ".repeat(155));
        PathPatcher same = item("f(a);" + " ".repeat(155), true, 0, 0);
        same.plus(0, 1, 0, 0);
        Check.applied(same, 1, "g(a);" + " ".repeat(155));
        Check.applied(item("f(a);" + " ".repeat(155), false, 0, 0), 0, "f(a);" + " ".repeat(155));
    }

    // .. "Makes all edits at once": only the text after all of them counts
    private static void applyToMoreThan160ByManyEdits() {
        String spaces = " ".repeat(151);
        PathPatcher room = item("a=a;f(a);" + spaces, false, 1, 0);
        room.plus(0, 1, 0, 0);
        room.item(true, 0, 0, 0, 0);
        Check.applied(room, 2, "a=a;g(a);" + spaces);
        PathPatcher noRoom = item("a=a;f(a);" + spaces, false, 1, 0);
        noRoom.plus(2, 0, 0, 0);
        noRoom.plus(2, 0, 0, 0);
        noRoom.item(true, 0, 0, 0, 0);
        Check.applied(noRoom, -4, "a=a;f(a);" + spaces);
        for (int over = 0; over <= 1; over++) {
            String text = "!a;".repeat(20) + " ".repeat(60 + over);
            PathPatcher patcher = item(text, true, 2, 0);
            patcher.plus(0, 0, 0, 0);
            String after = "f(a);".repeat(20) + " ".repeat(60);
            Check.applied(patcher, over == 0 ? 20 : -4, over == 0 ? after : text);
        }
    }

    // "-5 when it would have more than 24 nodes"
    private static void applyToMoreThan24Nodes() {
        for (int before = 22; before <= 24; before++) {
            String text = "!a;".repeat(before - 1) + "f(a);";
            for (int added = 0; added <= 2; added++) {
                for (int out = 0; out <= 1; out++) {
                    PathPatcher patcher = item(text, out == 1, 0, 0);
                    for (int i = 0; i < added; i++) {
                        patcher.plus(2, 0, 1, 0);
                    }
                    int edited = out + added > 0 ? 1 : 0;
                    boolean fits = before - out + added <= 24;
                    String after = "!a;".repeat(before - 1) + (out == 1 ? "" : "f(a);") + "!b;".repeat(added);
                    Check.applied(patcher, fits ? edited : -5, fits ? after : text);
                    Check.same("nodes", patcher.nodes(), fits ? before - out + added : before);
                }
            }
        }
    }

    // .. by edits of many nodes, of which some make room for others
    private static void applyToMoreThan24NodesByManyEdits() {
        PathPatcher room = Check.typed("a=a;f(a);" + "!a;".repeat(22));
        room.item(false, 1, 0, 0, 0);
        room.plus(2, 0, 1, 0);
        room.item(true, 0, 0, 0, 0);
        Check.applied(room, 2, "a=a;!b;" + "!a;".repeat(22));
        PathPatcher over = Check.typed("a=a;f(a);" + "!a;".repeat(22));
        over.item(false, 1, 0, 0, 0);
        over.plus(2, 0, 1, 0);
        over.plus(2, 0, 1, 0);
        over.item(true, 0, 0, 0, 0);
        Check.applied(over, -5, "a=a;f(a);" + "!a;".repeat(22));
        PathPatcher twelve = item("!a;".repeat(12), false, 2, 0);
        twelve.plus(2, 0, 1, 0);
        Check.applied(twelve, 12, "!a;!b;".repeat(12));
        PathPatcher thirteen = item("!a;".repeat(13), false, 2, 0);
        thirteen.plus(2, 0, 1, 0);
        Check.applied(thirteen, -5, "!a;".repeat(13));
    }

    /** 160 characters and 24 nodes are both met, and both still fit. */
    private static void bothLimitsAreMet() {
        PathPatcher patcher = item("f(a);".repeat(12) + " ".repeat(40), false, 0, 0);
        patcher.plus(0, 1, 0, 0);
        Check.applied(patcher, 12, "f(a);g(a);".repeat(12) + " ".repeat(40));
        Check.same("length", patcher.length(), 160);
        Check.same("nodes", patcher.nodes(), 24);
        PathPatcher nodesOver = item("f(a);".repeat(13) + " ".repeat(30), false, 0, 0);
        nodesOver.plus(0, 1, 0, 0);
        Check.applied(nodesOver, -5, "f(a);".repeat(13) + " ".repeat(30));
        PathPatcher textOver = item("f(a);".repeat(12) + " ".repeat(41), false, 0, 0);
        textOver.plus(0, 1, 0, 0);
        Check.applied(textOver, -4, "f(a);".repeat(12) + " ".repeat(41));
    }
}
