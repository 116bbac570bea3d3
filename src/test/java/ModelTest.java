import java.util.List;
import java.util.Random;
import java.util.Set;

/** All promises on many made-up runs (the seed is fixed), against the model. */
public final class ModelTest {
    private static final int RUNS = 6000;
    private static final int MOST_CALLS = 512;

    private final Random random;
    private final int run;
    private final PathPatcher patcher = new PathPatcher();
    private final Model model = new Model();
    private final StringBuilder told = new StringBuilder();
    private int calls = 0;

    private ModelTest(int run) {
        this.run = run;
        random = new Random(run);
    }

    public static void main(String[] args) {
        int[] applied = new int[32];
        for (int run = 0; run < RUNS; run++) {
            new ModelTest(run).play(applied);
        }
        // A comparison that never comes to an answer would prove nothing of it.
        for (int answer = -5; answer <= 4; answer++) {
            Check.same("apply answered " + answer + " in some run", applied[answer + 5] > 0, true);
        }
        Check.end();
    }

    private void play(int[] applied) {
        typeText();
        compareFlow();
        for (int round = 0; round < 4 && calls < MOST_CALLS - 110; round++) {
            if (random.nextInt(3) > 0) {
                writeScript();
            }
            compareSearch();
            if (random.nextInt(4) == 0) {
                addNew();
            }
            calls++;
            int answer = model.apply();
            same("apply", patcher.apply(), answer);
            applied[Math.min(answer + 5, applied.length - 1)]++;
            compareText();
            if (random.nextInt(4) == 0) {
                changeText();
            }
        }
    }

    private void same(String what, long got, long want) {
        if (got != want) {
            Check.same("run " + run + ", text \"" + model.text() + "\", script" + told + ": " + what, got, want);
        } else {
            Check.same(what, got, want);
        }
    }

    private static long of(boolean answer) {
        return answer ? 1 : 0;
    }

    private void typeText() {
        String text = madeText();
        for (int i = 0; i < text.length(); i++) {
            typeBoth(text.charAt(i));
        }
    }

    private void typeBoth(char c) {
        calls++;
        same("type " + (int) c, of(patcher.type(c)), of(model.type(c)));
    }

    private void changeText() {
        switch (random.nextInt(4)) {
            case 0 -> {
                calls++;
                patcher.clear();
                model.clear();
            }
            case 1 -> typeBoth((char) random.nextInt(140));
            default -> {
                for (char c : simple().toCharArray()) {
                    typeBoth(c);
                }
            }
        }
    }

    private String madeText() {
        StringBuilder text = new StringBuilder();
        int most = 1 + random.nextInt(12);
        for (int i = 0; i < most; i++) {
            text.append(statement(random.nextInt(8) == 0 ? 7 : 3));
        }
        if (text.length() > 150) {
            text.setLength(0);
            text.append(simple()).append("?a{").append(simple()).append("}:{").append(simple()).append("}");
        }
        strew(text);
        if (random.nextInt(12) == 0 && text.length() > 0) {
            text.setCharAt(random.nextInt(text.length()), "abf(){};#:=!?*x ".charAt(random.nextInt(16)));
        }
        while (random.nextInt(20) == 0) {
            text.append(" ".repeat(random.nextInt(60)));
        }
        return text.toString();
    }

    /** Puts spaces and comments between characters. */
    private void strew(StringBuilder text) {
        int times = random.nextInt(3) == 0 ? random.nextInt(8) : 0;
        String[] bits = {" ", "##", "#f(a);#", "  ", "#}#"};
        for (int i = 0; i < times; i++) {
            text.insert(random.nextInt(text.length() + 1), bits[random.nextInt(bits.length)]);
        }
    }

    private String statement(int depth) {
        int kind = random.nextInt(10);
        if (depth == 0 || kind < 6) {
            return simple();
        }
        StringBuilder text = new StringBuilder();
        text.append(kind < 8 ? '?' : '*').append(variable()).append('{').append(row(depth)).append('}');
        if (kind == 7) {
            text.append(":{").append(row(depth)).append('}');
        }
        return text.toString();
    }

    private String row(int depth) {
        StringBuilder text = new StringBuilder();
        int size = depth > 3 ? 1 : random.nextInt(3);
        for (int i = 0; i < size; i++) {
            text.append(statement(depth - 1));
        }
        return text.toString();
    }

    /** Few variables and functions, so that patterns often fit. */
    private String simple() {
        return switch (random.nextInt(6)) {
            case 0 -> variable() + "=" + variable() + ";";
            case 1 -> random.nextInt(3) == 0 ? "!" + variable() + ";" : "g(a);";
            default -> "fgh".charAt(random.nextInt(3)) + "(" + variable() + ");";
        };
    }

    private char variable() {
        return "aaaabbbccd".charAt(random.nextInt(10));
    }

    private void writeScript() {
        if (random.nextInt(5) > 0) {
            calls++;
            told.setLength(0);
            patcher.forget();
            model.forget();
        }
        int size = 1 + random.nextInt(random.nextInt(6) == 0 ? 7 : 3);
        for (int i = 0; i < size; i++) {
            addItem();
            while (random.nextInt(3) == 0) {
                addNew();
            }
            if (i + 1 < size && random.nextInt(3) > 0 || random.nextInt(30) == 0) {
                addDots();
            }
        }
    }

    private int operand() {
        return random.nextInt(40) == 0 ? random.nextInt(12) - 3 : "0000112444445566".charAt(random.nextInt(16)) - '0';
    }

    private int function() {
        return random.nextInt(40) == 0 ? random.nextInt(8) - 3 : random.nextInt(3);
    }

    private int kind(String often) {
        return random.nextInt(40) == 0 ? random.nextInt(8) - 3 : often.charAt(random.nextInt(often.length())) - '0';
    }

    private void addItem() {
        boolean out = random.nextInt(3) == 0;
        int op = kind("00000123");
        int f = function();
        int x = operand();
        int y = operand();
        calls++;
        told.append(" item(" + out + ", " + op + ", " + f + ", " + x + ", " + y + ")");
        same("item", patcher.item(out, op, f, x, y), model.item(out, op, f, x, y));
    }

    private void addNew() {
        int op = kind("00112");
        int f = function();
        int x = operand();
        int y = operand();
        calls++;
        told.append(" plus(" + op + ", " + f + ", " + x + ", " + y + ")");
        same("plus", of(patcher.plus(op, f, x, y)), of(model.plus(op, f, x, y)));
    }

    private void addDots() {
        int op = random.nextBoolean() ? -1 : kind("00123");
        int f = function();
        int x = operand();
        int y = operand();
        calls++;
        told.append(" dots(" + op + ", " + f + ", " + x + ", " + y + ")");
        same("dots", of(patcher.dots(op, f, x, y)), of(model.dots(op, f, x, y)));
    }

    private void compareText() {
        calls++;
        same("length", patcher.length(), model.text().length());
        if (calls < MOST_CALLS - 180) {
            calls += model.text().length();
            Check.same("text of run " + run, Check.textOf(patcher), model.text());
        }
    }

    private void compareFlow() {
        calls++;
        int nodes = model.nodes();
        same("nodes", patcher.nodes(), nodes);
        for (int n = -1; n <= nodes; n++) {
            calls += 3;
            same("edge 0 of " + n, patcher.edge(n, 0), model.edge(n, 0));
            same("edge 1 of " + n, patcher.edge(n, 1), model.edge(n, 1));
            same("begin of " + n, patcher.begins(n), model.begins(n));
        }
    }

    private void compareSearch() {
        List<Integer> matches = model.matchList();
        calls++;
        same("matches", patcher.matches(), matches == null ? model.refusal() : matches.size());
        int count = matches == null ? 0 : matches.size();
        for (int i = 0; i < count && i < 20; i++) {
            calls++;
            same("match " + i, patcher.match(i), matches.get(i));
        }
        calls++;
        same("no match", patcher.match(count), -1);
        Set<Integer> hits = model.hitSet();
        for (int i = 0; i < 30; i++) {
            calls++;
            int n = random.nextInt(24);
            int k = random.nextInt(4);
            same("hit " + n + ", " + k, of(patcher.hit(n, k)), of(hits.contains(n * 8 + k)));
        }
        for (int hit : hits) {
            if (calls < MOST_CALLS - 4) {
                calls++;
                same("hit " + hit / 8 + ", " + hit % 8, of(patcher.hit(hit / 8, hit % 8)), 1);
            }
        }
    }
}
