/** Promises 9 to 12: every sentence that names a case at the edge, on both sides of it. */
public final class BoundsOfScriptTest {
    private static final int MIN = Integer.MIN_VALUE;
    private static final int MAX = Integer.MAX_VALUE;
    private static final int[] NO_FUNCTION = {MIN, MIN + 1, -2, -1, 3, 4, 7, 32, MAX - 1, MAX};
    private static final int[] NO_OPERAND = {MIN, MIN + 1, -2, -1, 7, 8, 32, 36, MAX - 1, MAX};
    private static final int[] ANY = {MIN, -1, 0, 3, 6, 7, MAX};

    public static void main(String[] args) {
        itemAnswersHowManyThereAre();
        itemOfNoKind();
        itemOfNoFunction();
        itemOfNoOperand();
        itemAsFarAsOpNamesThem();
        itemOfATestThatIsTakenOut();
        itemWhen6AreThere();
        dotsWhenThereIsNoItem();
        dotsWhenDotsAreBehindTheLast();
        dotsOfNoKind();
        dotsWithoutAPattern();
        dotsOfNoFunction();
        dotsOfNoOperand();
        dotsAsFarAsOpNamesThem();
        dotsOfAnUnknownNotNamed();
        plusWhenThereIsNoItem();
        plusWhenDotsAreBehindTheLast();
        plusOfATest();
        plusWhenTheItemHasTwo();
        plusOfNoKind();
        plusOfNoFunction();
        plusOfNoOperand();
        plusAsFarAsOpNamesThem();
        plusOfAnUnknownNotNamed();
        plusStandsBehindThoseThatItHas();
        forgetOfAnyScript();
        Check.end();
    }

    private static PathPatcher withItem(int op, int x) {
        PathPatcher patcher = new PathPatcher();
        Check.same("item", patcher.item(false, op, 0, x, x), 1);
        return patcher;
    }

    /** An object whose one item names X, Y or Z alone, or none of them. */
    private static PathPatcher naming(int unknown) {
        return withItem(2, unknown);
    }

    private static int itemOn(int op, int f, int x, int y) {
        return new PathPatcher().item(false, op, f, x, y);
    }

    private static boolean dotsOn(int op, int f, int x, int y) {
        return withAllNamed().dots(op, f, x, y);
    }

    private static boolean plusOn(int op, int f, int x, int y) {
        return withAllNamed().plus(op, f, x, y);
    }

    private static PathPatcher withAllNamed() {
        PathPatcher patcher = withItem(1, 4);
        Check.same("item", patcher.item(false, 1, 0, 5, 6), 2);
        return patcher;
    }

    // Promise 9: "answers how many there are"
    private static void itemAnswersHowManyThereAre() {
        PathPatcher patcher = new PathPatcher();
        for (int i = 1; i <= 6; i++) {
            Check.same("item " + i, patcher.item(i % 2 == 0, i % 3, 0, i, i), i);
        }
        patcher.forget();
        Check.same("after forget", patcher.item(false, 0, 0, 0, 0), 1);
        Check.same("a refused one does not count", patcher.item(false, 9, 0, 0, 0), -1);
        patcher.plus(0, 0, 0, 0);
        patcher.dots(-1, 0, 0, 0);
        Check.same("nor do new statements and dots", patcher.item(false, 0, 0, 0, 0), 2);
    }

    // Promise 9: "-1 when op is not 0 .. 3"
    private static void itemOfNoKind() {
        int[] none = {MIN, MIN + 1, -2, -1, 4, 5, 32, MAX - 1, MAX};
        for (int op : none) {
            Check.same("item of kind " + op, itemOn(op, 0, 0, 0), -1);
        }
        for (int op = 0; op <= 3; op++) {
            Check.same("item of kind " + op, itemOn(op, 0, 0, 0), 1);
        }
    }

    // Promise 9: "-1 when .. f is no function"
    private static void itemOfNoFunction() {
        for (int f : NO_FUNCTION) {
            Check.same("item of function " + f, itemOn(0, f, 0, 0), -1);
        }
        for (int f = 0; f <= 2; f++) {
            Check.same("item of function " + f, itemOn(0, f, 0, 0), 1);
        }
    }

    // Promise 9: "-1 when .. x, y no operand"
    private static void itemOfNoOperand() {
        for (int bad : NO_OPERAND) {
            for (int op = 0; op <= 3; op++) {
                Check.same("item of x " + bad, itemOn(op, 0, bad, 0), -1);
            }
            Check.same("item of y " + bad, itemOn(1, 0, 0, bad), -1);
        }
        for (int good = 0; good <= 6; good++) {
            for (int op = 0; op <= 3; op++) {
                Check.same("item of x " + good, itemOn(op, 0, good, 0), 1);
            }
            Check.same("item of y " + good, itemOn(1, 0, 0, good), 1);
        }
    }

    // Promise 9: "(as far as op names them)", and "What a kind does not name .. may be any number."
    private static void itemAsFarAsOpNamesThem() {
        for (int any : ANY) {
            Check.same("call, y " + any, itemOn(0, 0, 0, any), 1);
            Check.same("assignment, f " + any, itemOn(1, any, 0, 0), 1);
            Check.same("return, f " + any, itemOn(2, any, 0, 0), 1);
            Check.same("return, y " + any, itemOn(2, 0, 0, any), 1);
            Check.same("test, f " + any, itemOn(3, any, 0, 0), 1);
            Check.same("test, y " + any, itemOn(3, 0, 0, any), 1);
            PathPatcher patcher = Check.typed("f(a);a=a;!a;?a{}");
            patcher.item(false, 0, 0, 0, any);
            patcher.item(false, 1, any, 0, 0);
            patcher.item(false, 2, any, 0, any);
            Check.same("the return leads on to nothing", patcher.matches(), 1);
            patcher.forget();
            patcher.item(false, 3, any, 0, any);
            Check.same("it is not looked at", Check.matchesOf(patcher), "[192]");
        }
    }

    // Promise 9: "-2 when op is 3 and it is to be taken out"
    private static void itemOfATestThatIsTakenOut() {
        for (int op = 0; op <= 3; op++) {
            PathPatcher patcher = new PathPatcher();
            Check.same("out, of kind " + op, patcher.item(true, op, 0, 0, 0), op == 3 ? -2 : 1);
            Check.same("kept, of kind " + op, patcher.item(false, op, 0, 0, 0), op == 3 ? 1 : 2);
        }
    }

    // Promise 9: "-3 when 6 items are there"; THE SCRIPT is "a row of up to 6 ITEMS"
    private static void itemWhen6AreThere() {
        PathPatcher patcher = Check.typed("?a{}".repeat(7));
        for (int i = 1; i <= 6; i++) {
            Check.same("item when " + (i - 1) + " are there", patcher.item(false, 3, 0, 0, 0), i);
        }
        Check.same("item when 6 are there", patcher.item(false, 3, 0, 1, 0), -3);
        Check.same("and again", patcher.item(true, 0, 0, 0, 0), -3);
        Check.same("six tests in a row", Check.matchesOf(patcher), "[0, 64]");
        Check.same("the last is hit as the sixth", patcher.hit(6, 5), true);
        patcher.dots(-1, 0, 0, 0);
        Check.same("item behind dots when 6 are there", patcher.item(false, 3, 0, 0, 0), -3);
    }

    // Promise 10: "false when there is no item"
    private static void dotsWhenThereIsNoItem() {
        PathPatcher patcher = new PathPatcher();
        for (int op = -1; op <= 3; op++) {
            Check.same("no item, kind " + op, patcher.dots(op, 0, 0, 0), false);
        }
        patcher.item(true, 3, 0, 0, 0);
        Check.same("after a refused item", patcher.dots(-1, 0, 0, 0), false);
        patcher.item(false, 3, 0, 0, 0);
        Check.same("after an item", patcher.dots(-1, 0, 0, 0), true);
        patcher.forget();
        Check.same("after forget", patcher.dots(-1, 0, 0, 0), false);
    }

    // Promise 10: "false when .. dots are behind the last one"
    private static void dotsWhenDotsAreBehindTheLast() {
        for (int op = -1; op <= 3; op++) {
            PathPatcher patcher = withItem(0, 0);
            Check.same("first dots", patcher.dots(op, 0, 0, 0), true);
            Check.same("dots without a pattern", patcher.dots(-1, 0, 0, 0), false);
            Check.same("dots with one", patcher.dots(2, 0, 0, 0), false);
            Check.same("item", patcher.item(false, 0, 0, 0, 0), 2);
            Check.same("dots behind the next", patcher.dots(op, 0, 0, 0), true);
        }
        PathPatcher full = new PathPatcher();
        for (int i = 0; i < 6; i++) {
            full.item(false, 0, 0, 0, 0);
        }
        Check.same("behind the sixth", full.dots(-1, 0, 0, 0), true);
        Check.same("behind the sixth again", full.dots(-1, 0, 0, 0), false);
    }

    // Promise 10: "false when .. op is not -1 .. 3"
    private static void dotsOfNoKind() {
        int[] none = {MIN, MIN + 1, -3, -2, 4, 5, 32, MAX - 1, MAX};
        for (int op : none) {
            Check.same("dots of kind " + op, dotsOn(op, 0, 0, 0), false);
        }
        for (int op = -1; op <= 3; op++) {
            Check.same("dots of kind " + op, dotsOn(op, 0, 0, 0), true);
        }
    }

    // Promise 10: "without one when op is -1. (Then f, x, y may be any.)"
    private static void dotsWithoutAPattern() {
        for (int any : ANY) {
            PathPatcher patcher = withItem(0, 0);
            Check.same("dots with " + any, patcher.dots(-1, any, any, any), true);
            patcher.item(false, 2, 0, 0, 0);
            Check.retype(patcher, "f(a);f(a);a=a;?a{}*a{}!a;");
            Check.found(patcher, "[0, 64]", "0/0 1/0 5/1");
        }
    }

    // Promise 10: "false when .. f is no function"
    private static void dotsOfNoFunction() {
        for (int f : NO_FUNCTION) {
            Check.same("dots of function " + f, dotsOn(0, f, 0, 0), false);
        }
        for (int f = 0; f <= 2; f++) {
            Check.same("dots of function " + f, dotsOn(0, f, 0, 0), true);
        }
    }

    // Promise 10: "false when .. x, y no operand"
    private static void dotsOfNoOperand() {
        for (int bad : NO_OPERAND) {
            for (int op = 0; op <= 3; op++) {
                Check.same("dots of x " + bad, dotsOn(op, 0, bad, 0), false);
            }
            Check.same("dots of y " + bad, dotsOn(1, 0, 0, bad), false);
        }
        for (int good = 0; good <= 6; good++) {
            for (int op = 0; op <= 3; op++) {
                Check.same("dots of x " + good, dotsOn(op, 0, good, 0), true);
            }
            Check.same("dots of y " + good, dotsOn(1, 0, 0, good), true);
        }
    }

    // Promise 10: "(as far as op names them)"
    private static void dotsAsFarAsOpNamesThem() {
        for (int any : ANY) {
            Check.same("call, y " + any, withItem(0, 0).dots(0, 0, 0, any), true);
            Check.same("assignment, f " + any, withItem(0, 0).dots(1, any, 0, 0), true);
            Check.same("return", withItem(0, 0).dots(2, any, 0, any), true);
            Check.same("test", withItem(0, 0).dots(3, any, 0, any), true);
            PathPatcher patcher = withItem(0, 0);
            patcher.dots(3, any, 0, any);
            patcher.item(false, 2, 0, 0, 0);
            Check.retype(patcher, "f(a);?a{}!a;");
            Check.same("it is not looked at", Check.matchesOf(patcher), "[]");
            Check.retype(patcher, "f(a);?b{}!a;");
            Check.same("a test of another", Check.matchesOf(patcher), "[0]");
        }
    }

    // Promise 10: "false when .. the pattern names an unknown that no item so far names"
    private static void dotsOfAnUnknownNotNamed() {
        for (int named = 3; named <= 6; named++) {
            for (int unknown = 4; unknown <= 6; unknown++) {
                boolean known = named == unknown;
                Check.same("call", naming(named).dots(0, 0, unknown, 0), known);
                Check.same("assignment, x", naming(named).dots(1, 0, unknown, 0), known);
                Check.same("assignment, y", naming(named).dots(1, 0, 0, unknown), known);
                Check.same("both", naming(named).dots(1, 0, named, unknown), known);
                Check.same("return", naming(named).dots(2, 0, unknown, 0), known);
                Check.same("test", naming(named).dots(3, 0, unknown, 0), known);
                Check.same("a variable", naming(named).dots(2, unknown, 3, unknown), true);
            }
        }
        PathPatcher patcher = withItem(2, 0);
        Check.same("Z is not yet named", patcher.dots(2, 0, 6, 0), false);
        patcher.item(false, 1, 0, 0, 6);
        Check.same("Z is named now", patcher.dots(2, 0, 6, 0), true);
        patcher.item(false, 3, 0, 0, 0);
        Check.same("by an item before the last", patcher.dots(1, 0, 6, 6), true);
        patcher.item(false, 2, 4, 0, 5);
        Check.same("what its kind does not name is no name", patcher.dots(1, 0, 4, 5), false);
        Check.same("nor a refused item's", patcher.item(false, 1, 0, 4, 7), -1);
        Check.same("X is not named", patcher.dots(2, 0, 4, 0), false);
    }

    // Promise 11: "false when there is no item"
    private static void plusWhenThereIsNoItem() {
        PathPatcher patcher = new PathPatcher();
        for (int op = 0; op <= 2; op++) {
            Check.same("no item, kind " + op, patcher.plus(op, 0, 0, 0), false);
        }
        patcher.item(false, 0, 3, 0, 0);
        Check.same("after a refused item", patcher.plus(0, 0, 0, 0), false);
        patcher.item(false, 0, 2, 0, 0);
        Check.same("after an item", patcher.plus(0, 0, 0, 0), true);
        patcher.forget();
        Check.same("after forget", patcher.plus(0, 0, 0, 0), false);
    }

    // Promise 11: "false when .. dots are behind the last one"
    private static void plusWhenDotsAreBehindTheLast() {
        PathPatcher patcher = withItem(0, 0);
        Check.same("before the dots", patcher.plus(0, 0, 0, 0), true);
        patcher.dots(-1, 0, 0, 0);
        Check.same("behind the dots", patcher.plus(0, 0, 0, 0), false);
        patcher.item(false, 0, 1, 0, 0);
        Check.same("behind the next item", patcher.plus(0, 2, 0, 0), true);
        Check.retype(patcher, "f(a);g(a);");
        Check.applied(patcher, 2, "f(a);f(a);g(a);h(a);");
    }

    // Promise 11: "false when .. that is a test"
    private static void plusOfATest() {
        for (int op = 0; op <= 3; op++) {
            for (int added = 0; added <= 2; added++) {
                Check.same("item of kind " + op, withItem(op, 0).plus(added, 0, 0, 0), op != 3);
            }
        }
        PathPatcher patcher = withItem(3, 0);
        patcher.item(false, 0, 0, 0, 0);
        Check.same("a call behind a test", patcher.plus(0, 0, 0, 0), true);
        patcher.item(false, 3, 0, 0, 0);
        Check.same("a test behind a call", patcher.plus(0, 0, 0, 0), false);
    }

    // Promise 11: "false when .. that .. has two already"; items have "up to 2 NEW statements"
    private static void plusWhenTheItemHasTwo() {
        PathPatcher patcher = new PathPatcher();
        for (int i = 0; i < 6; i++) {
            patcher.item(i % 2 == 0, i % 3, 0, 0, 0);
            Check.same("when it has none", patcher.plus(0, 0, 0, 0), true);
            Check.same("when it has one", patcher.plus(1, 0, 0, 0), true);
            for (int op = 0; op <= 2; op++) {
                Check.same("when it has two", patcher.plus(op, 0, 0, 0), false);
            }
        }
    }

    // Promise 11: "false when .. op is not 0 .. 2"
    private static void plusOfNoKind() {
        int[] none = {MIN, MIN + 1, -2, -1, 3, 4, 32, MAX - 1, MAX};
        for (int op : none) {
            Check.same("plus of kind " + op, plusOn(op, 0, 0, 0), false);
        }
        for (int op = 0; op <= 2; op++) {
            Check.same("plus of kind " + op, plusOn(op, 0, 0, 0), true);
        }
    }

    // Promise 11: "false when .. f is no function"
    private static void plusOfNoFunction() {
        for (int f : NO_FUNCTION) {
            Check.same("plus of function " + f, plusOn(0, f, 0, 0), false);
        }
        for (int f = 0; f <= 2; f++) {
            Check.same("plus of function " + f, plusOn(0, f, 0, 0), true);
        }
    }

    // Promise 11: "false when .. x, y no operand"
    private static void plusOfNoOperand() {
        for (int bad : NO_OPERAND) {
            for (int op = 0; op <= 2; op++) {
                Check.same("plus of x " + bad, plusOn(op, 0, bad, 0), false);
            }
            Check.same("plus of y " + bad, plusOn(1, 0, 0, bad), false);
        }
        for (int good = 0; good <= 6; good++) {
            for (int op = 0; op <= 2; op++) {
                Check.same("plus of x " + good, plusOn(op, 0, good, 0), true);
            }
            Check.same("plus of y " + good, plusOn(1, 0, 0, good), true);
        }
    }

    // Promise 11: "(as far as op names them)"
    private static void plusAsFarAsOpNamesThem() {
        for (int any : ANY) {
            PathPatcher patcher = Check.typed("!d;");
            patcher.item(true, 2, 0, 3, 0);
            Check.same("call, y " + any, patcher.plus(0, 1, 2, any), true);
            Check.same("assignment, f " + any, patcher.plus(1, any, 0, 1), true);
            Check.applied(patcher, 1, "g(c);a=b;");
            PathPatcher other = Check.typed("!d;");
            other.item(true, 2, 0, 3, 0);
            Check.same("return, f and y " + any, other.plus(2, any, 1, any), true);
            Check.applied(other, 1, "!b;");
        }
    }

    // Promise 11: "false when .. it names an unknown that no item so far names"
    private static void plusOfAnUnknownNotNamed() {
        for (int named = 3; named <= 6; named++) {
            for (int unknown = 4; unknown <= 6; unknown++) {
                boolean known = named == unknown;
                Check.same("call", naming(named).plus(0, 0, unknown, 0), known);
                Check.same("assignment, x", naming(named).plus(1, 0, unknown, 0), known);
                Check.same("assignment, y", naming(named).plus(1, 0, 0, unknown), known);
                Check.same("both", naming(named).plus(1, 0, named, unknown), known);
                Check.same("return", naming(named).plus(2, 0, unknown, 0), known);
                Check.same("a variable", naming(named).plus(2, unknown, 3, unknown), true);
            }
        }
        PathPatcher patcher = withItem(0, 0);
        Check.same("Y is not yet named", patcher.plus(2, 0, 5, 0), false);
        patcher.item(false, 1, 0, 5, 0);
        Check.same("Y is named now", patcher.plus(2, 0, 5, 0), true);
        patcher.item(false, 0, 4, 6, 0);
        Check.same("a refused item names nothing", patcher.plus(2, 0, 6, 0), false);
        patcher.dots(-1, 4, 4, 4);
        patcher.item(false, 2, 6, 0, 6);
        Check.same("by an item before the last", patcher.plus(1, 0, 0, 5), true);
        Check.same("nor do dots or what is not looked at", patcher.plus(1, 0, 4, 6), false);
    }

    // Promise 11: "behind those that it has"
    private static void plusStandsBehindThoseThatItHas() {
        PathPatcher patcher = Check.typed("!d;");
        patcher.item(false, 2, 0, 3, 0);
        patcher.plus(0, 0, 0, 0);
        Check.same("refused", patcher.plus(0, 3, 0, 0), false);
        patcher.plus(0, 1, 0, 0);
        Check.same("refused", patcher.plus(0, 2, 0, 0), false);
        Check.applied(patcher, 1, "!d;f(a);g(a);");
    }

    // Promise 12: "The script is empty."
    private static void forgetOfAnyScript() {
        for (int size = 0; size <= 6; size++) {
            for (int dotted = 0; dotted <= 1; dotted++) {
                forgetOf(size, dotted == 1);
            }
        }
    }

    private static void forgetOf(int size, boolean dotted) {
        PathPatcher patcher = Check.typed("f(a);f(a);");
        for (int i = 0; i < size; i++) {
            patcher.item(true, 1, 0, 4 + i % 3, 6);
            patcher.plus(0, 0, 4, 0);
            if (dotted) {
                patcher.dots(2, 0, 6, 0);
            }
        }
        patcher.forget();
        Check.same("matches", patcher.matches(), -2);
        Check.same("dots", patcher.dots(-1, 0, 0, 0), false);
        Check.same("plus", patcher.plus(0, 0, 0, 0), false);
        Check.same("text stays", Check.textOf(patcher), "f(a);f(a);");
        Check.same("first item", patcher.item(false, 0, 0, 0, 0), 1);
        for (int unknown = 4; unknown <= 6; unknown++) {
            Check.same("unknowns are forgotten", patcher.plus(2, 0, unknown, 0), false);
        }
        Check.found(patcher, "[0, 64]", "0/0 1/0");
        Check.applied(patcher, 0, "f(a);f(a);");
        for (int i = 2; i <= 6; i++) {
            Check.same("there is room for 6", patcher.item(false, 0, 0, 0, 0), i);
        }
        Check.same("but not for 7", patcher.item(false, 0, 0, 0, 0), -3);
    }
}
