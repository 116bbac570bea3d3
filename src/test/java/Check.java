/** What the tests share: comparing answers, typing texts and reading them back. */
final class Check {
    private static int wrong = 0;
    private static int compared = 0;

    private Check() {
    }

    static void same(String what, long got, long want) {
        compared++;
        if (got != want) {
            wrong++;
            System.out.println(what + " answered " + got + ", due is " + want);
        }
    }

    static void same(String what, boolean got, boolean want) {
        same(what, got ? 1 : 0, want ? 1 : 0);
    }

    static void same(String what, String got, String want) {
        compared++;
        if (!got.equals(want)) {
            wrong++;
            System.out.println(what + " is \"" + got + "\", due is \"" + want + "\"");
        }
    }

    static PathPatcher typed(String text) {
        PathPatcher patcher = new PathPatcher();
        retype(patcher, text);
        return patcher;
    }

    static void retype(PathPatcher patcher, String text) {
        patcher.clear();
        for (int i = 0; i < text.length(); i++) {
            same("type " + text.charAt(i), patcher.type(text.charAt(i)), true);
        }
    }

    static String textOf(PathPatcher patcher) {
        StringBuilder text = new StringBuilder();
        int length = patcher.length();
        for (int i = 0; i < length; i++) {
            text.append((char) patcher.at(i));
        }
        return text.toString();
    }

    /** Applies the script and compares the answer and the text that is there afterwards. */
    static void applied(PathPatcher patcher, int answer, String text) {
        same("apply", patcher.apply(), answer);
        same("text after apply", textOf(patcher), text);
    }

    static void found(PathPatcher patcher, String matches, String hits) {
        same("matches", matchesOf(patcher), matches);
        same("hits", hitsOf(patcher), hits);
    }

    static void nodes(String text, int want) {
        same("nodes of " + text, typed(text).nodes(), want);
    }

    /** Every edge of every node, as "0>1 1>2,3". */
    static String edgesOf(PathPatcher patcher) {
        StringBuilder row = new StringBuilder();
        int nodes = patcher.nodes();
        for (int n = 0; n < nodes; n++) {
            row.append(n == 0 ? "" : " ").append(n).append('>').append(patcher.edge(n, 0));
            if (patcher.edge(n, 1) != -1) {
                row.append(',').append(patcher.edge(n, 1));
            }
        }
        return row.toString();
    }

    static void edges(String text, String want) {
        same("edges of " + text, edgesOf(typed(text)), want);
    }

    /** The numbers of all matches, as "[1, 2]", or what matches() answered if that is negative. */
    static String matchesOf(PathPatcher patcher) {
        int count = patcher.matches();
        if (count < 0) {
            return Integer.toString(count);
        }
        StringBuilder row = new StringBuilder("[");
        for (int i = 0; i < count; i++) {
            row.append(i == 0 ? "" : ", ").append(patcher.match(i));
        }
        same("match behind the last one", patcher.match(count), -1);
        same("match before the first one", patcher.match(-1), -1);
        return row.append("]").toString();
    }

    /** Every hit as node/item, by nodes. */
    static String hitsOf(PathPatcher patcher) {
        StringBuilder row = new StringBuilder();
        int nodes = patcher.nodes();
        for (int n = 0; n < nodes; n++) {
            for (int k = 0; k < 6; k++) {
                if (patcher.hit(n, k)) {
                    row.append(row.length() == 0 ? "" : " ").append(n).append('/').append(k);
                }
            }
        }
        return row.toString();
    }

    static void end() {
        System.out.println(compared + " answers compared, " + wrong + " wrong");
        if (wrong != 0) {
            System.exit(1);
        }
    }
}
