/** Promises 1 to 5: a new object, type, clear, length and at. */
public final class TextTest {
    public static void main(String[] args) {
        newObjectIsEmpty();
        typeTakesEveryCode();
        typeStopsAt160();
        clearLeavesTheScript();
        atAnswersPlaces();
        objectsAreApart();
        Check.end();
    }

    private static void newObjectIsEmpty() {
        PathPatcher patcher = new PathPatcher();
        Check.same("length", patcher.length(), 0);
        Check.same("at(0)", patcher.at(0), -1);
        Check.same("nodes", patcher.nodes(), 0);
        Check.same("matches", patcher.matches(), -2);
        Check.same("match(0)", patcher.match(0), -1);
        Check.same("hit(0, 0)", patcher.hit(0, 0), false);
        Check.same("apply", patcher.apply(), -2);
        Check.same("dots", patcher.dots(-1, 0, 0, 0), false);
        Check.same("plus", patcher.plus(0, 0, 0, 0), false);
        Check.same("first item", patcher.item(false, 0, 0, 0, 0), 1);
    }

    private static void typeTakesEveryCode() {
        int[] wrong = {0, 9, 10, 31, 127, 128, 160, 255, 256, 32 + 256, 65535};
        PathPatcher patcher = new PathPatcher();
        for (int code : wrong) {
            Check.same("type " + code, patcher.type((char) code), false);
        }
        Check.same("length after refusals", patcher.length(), 0);
        for (int code = 32; code <= 126; code++) {
            Check.same("type " + code, patcher.type((char) code), true);
            Check.same("length", patcher.length(), code - 31);
            Check.same("at", patcher.at(code - 32), code);
        }
    }

    private static void typeStopsAt160() {
        PathPatcher patcher = new PathPatcher();
        for (int i = 0; i < 160; i++) {
            Check.same("type no. " + i, patcher.type(' '), true);
        }
        Check.same("type no. 160", patcher.type('a'), false);
        Check.same("length", patcher.length(), 160);
        Check.same("at(159)", patcher.at(159), 32);
        Check.same("at(160)", patcher.at(160), -1);
        Check.same("160 spaces", patcher.nodes(), 0);
        patcher.clear();
        Check.same("type after clear", patcher.type('a'), true);
        Check.same("length after clear", patcher.length(), 1);
    }

    private static void clearLeavesTheScript() {
        PathPatcher patcher = Check.typed("f(a);");
        patcher.item(false, 0, 0, 4, 0);
        Check.same("matches", patcher.matches(), 1);
        patcher.clear();
        Check.same("length", patcher.length(), 0);
        Check.same("at(0)", patcher.at(0), -1);
        Check.same("nodes", patcher.nodes(), 0);
        Check.same("matches of the empty text", patcher.matches(), 0);
        Check.retype(patcher, "f(b);f(c);");
        Check.same("matches with the old script", Check.matchesOf(patcher), "[1, 66]");
    }

    private static void atAnswersPlaces() {
        PathPatcher patcher = Check.typed("!a;");
        Check.same("at(0)", patcher.at(0), '!');
        Check.same("at(2)", patcher.at(2), ';');
        int[] none = {-1, 3, 159, 160, Integer.MAX_VALUE, Integer.MIN_VALUE};
        for (int i : none) {
            Check.same("at " + i, patcher.at(i), -1);
        }
    }

    private static void objectsAreApart() {
        PathPatcher one = Check.typed("f(a);");
        PathPatcher other = Check.typed("!b;");
        one.item(false, 2, 0, 4, 0);
        Check.same("text of one", Check.textOf(one), "f(a);");
        Check.same("text of the other", Check.textOf(other), "!b;");
        Check.same("script of the other", other.matches(), -2);
    }
}
