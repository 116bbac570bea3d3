import java.util.List;
import java.util.function.Consumer;
import java.util.function.Function;
import java.util.function.ToLongFunction;

/**
 * Finds out whether a refused call changed something: of two objects made alike one is asked the
 * call too, and then both must answer alike, whatever is asked. Each question is put to a new pair,
 * as many of them change the object themselves.
 */
final class Twins {
    private static final List<Function<PathPatcher, String>> QUESTIONS = List.of(
        Check::textOf, Twins::flow, Twins::search, Twins::edits, Twins::typing, Twins::manyItems,
        p -> unknown(p, 4), p -> unknown(p, 5), p -> unknown(p, 6), Twins::newStatements,
        Twins::newStatementsTwice, Twins::dotsAndItem, Twins::itemOnly, Twins::forgetting, Twins::clearing);

    private Twins() {
    }

    static void refused(String what, Consumer<PathPatcher> made, ToLongFunction<PathPatcher> call, long due) {
        for (Function<PathPatcher, String> question : QUESTIONS) {
            PathPatcher asked = new PathPatcher();
            PathPatcher other = new PathPatcher();
            made.accept(asked);
            made.accept(other);
            Check.same(what, call.applyAsLong(asked), due);
            Check.same("what is answered after " + what, question.apply(asked), question.apply(other));
        }
        sameAgain(what, made, call, Check::textOf);
        sameAgain(what, made, call, Twins::flow);
        sameAgain(what, made, call, Twins::search);
    }

    /** What was answered before the call, and may be kept inside since, is answered behind it too. */
    private static void sameAgain(String what, Consumer<PathPatcher> made, ToLongFunction<PathPatcher> call,
            Function<PathPatcher, String> question) {
        PathPatcher asked = new PathPatcher();
        made.accept(asked);
        String before = question.apply(asked);
        call.applyAsLong(asked);
        Check.same("what is answered again after " + what, question.apply(asked), before);
    }

    private static String flow(PathPatcher p) {
        StringBuilder row = new StringBuilder(p.nodes() + " " + Check.edgesOf(p));
        for (int n = 0; n < 24; n++) {
            row.append(' ').append(p.begins(n));
        }
        return row.toString();
    }

    private static String search(PathPatcher p) {
        return Check.matchesOf(p) + " " + (p.matches() < 0 ? "" : Check.hitsOf(p));
    }

    private static String edits(PathPatcher p) {
        return p.apply() + " " + Check.textOf(p);
    }

    private static String typing(PathPatcher p) {
        return p.type('!') + " " + p.type('d') + " " + p.type(';') + " " + p.length() + " " + p.nodes();
    }

    private static String manyItems(PathPatcher p) {
        StringBuilder row = new StringBuilder();
        for (int i = 0; i < 7; i++) {
            row.append(' ').append(p.item(false, 3, 0, 0, 0));
        }
        return row + " " + search(p);
    }

    private static String unknown(PathPatcher p, int unknown) {
        String first = p.dots(2, 0, unknown, 0) + " ";
        return first + p.item(true, 2, 0, 0, 0) + " " + p.plus(2, 0, unknown, 0) + " " + search(p);
    }

    private static String newStatements(PathPatcher p) {
        return p.plus(2, 0, 3, 0) + " " + edits(p);
    }

    private static String newStatementsTwice(PathPatcher p) {
        return p.plus(2, 0, 3, 0) + " " + p.plus(2, 0, 2, 0) + " " + p.plus(2, 0, 1, 0) + " " + edits(p);
    }

    private static String dotsAndItem(PathPatcher p) {
        return p.dots(-1, 0, 0, 0) + " " + itemOnly(p);
    }

    private static String itemOnly(PathPatcher p) {
        return p.item(false, 0, 1, 0, 0) + " " + search(p) + " " + edits(p);
    }

    private static String forgetting(PathPatcher p) {
        p.forget();
        return p.matches() + " " + p.dots(-1, 0, 0, 0) + " " + p.item(false, 0, 0, 0, 0) + " " + search(p);
    }

    private static String clearing(PathPatcher p) {
        p.clear();
        StringBuilder row = new StringBuilder();
        for (char c : "f(a);h(a);g(a);".toCharArray()) {
            row.append(p.type(c));
        }
        return row + search(p) + " " + edits(p);
    }
}
