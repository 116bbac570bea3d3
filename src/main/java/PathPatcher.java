/**
 * Rewrites programs by patterns over their control flow. Nodes and the exit are bits of an int
 * (24 nodes and one exit fit), so that a set of nodes is one number.
 */
public final class PathPatcher {
    private static final int MAX_TEXT = 160;
    private static final int MAX_NODES = 24;
    private static final int MAX_DEPTH = 6;
    private static final int MAX_ITEMS = 6;
    private static final int MAX_NEW = 2;
    private static final int LONGEST_STATEMENT = 5;
    private static final int FIRST_CODE = 32;
    private static final int LAST_CODE = 126;

    private static final int CALL = 0;
    private static final int ASSIGNMENT = 1;
    private static final int RETURN = 2;
    private static final int TEST = 3;

    private static final String VARIABLES = "abcd";
    private static final String FUNCTIONS = "fgh";
    private static final int VARIABLE_COUNT = 4;
    private static final int FUNCTION_COUNT = 3;
    private static final int UNKNOWN_COUNT = 3;
    private static final int BINDINGS = 64;

    private static final int NONE = -1;
    private static final char NO_TOKEN = 0;

    private static final int NOT_WELL_FORMED = -1;
    private static final int NO_WHOLE_SCRIPT = -2;
    private static final int CONFLICT = -3;
    private static final int TEXT_TOO_LONG = -4;
    private static final int TOO_MANY_NODES = -5;

    private final Source source;
    private final Program program;
    private final Parser parser;
    private final Script script;
    private final Search search;
    private final Rewriter rewriter;
    private boolean wellFormed;
    private boolean parsed;
    private boolean searched;

    public PathPatcher() {
        source = new Source();
        program = new Program();
        parser = new Parser(program);
        script = new Script();
        search = new Search(program, script);
        rewriter = new Rewriter(program, search);
    }

    public boolean type(char c) {
        if (!source.append(c)) {
            return false;
        }
        noteNewText();
        return true;
    }

    public void clear() {
        source.empty();
        noteNewText();
    }

    public int length() {
        return source.size();
    }

    public int at(int i) {
        return source.holds(i) ? source.charOf(i) : NONE;
    }

    public int nodes() {
        return isWellFormed() ? program.size() : NOT_WELL_FORMED;
    }

    public int edge(int n, int k) {
        return isWellFormed() && program.holds(n) ? program.node(n).successor(k) : NONE;
    }

    public int begins(int n) {
        return isWellFormed() && program.holds(n) ? program.node(n).begin : NONE;
    }

    public int item(boolean out, int op, int f, int x, int y) {
        if (!Pattern.isSound(op, f, x, y)) {
            return -1;
        }
        if (op == TEST && out) {
            return -2;
        }
        if (!script.append(out, op, f, x, y)) {
            return -3;
        }
        searched = false;
        return script.size();
    }

    public boolean dots(int op, int f, int x, int y) {
        if (script.isEmpty() || script.endsInDots()) {
            return false;
        }
        if (op != NONE && !(Pattern.isSound(op, f, x, y) && script.knowsUnknowns(op, x, y))) {
            return false;
        }
        script.last().follow(op, f, x, y);
        searched = false;
        return true;
    }

    public boolean plus(int op, int f, int x, int y) {
        if (script.isEmpty() || script.endsInDots() || !script.last().takesNew()) {
            return false;
        }
        if (op == TEST || !Pattern.isSound(op, f, x, y) || !script.knowsUnknowns(op, x, y)) {
            return false;
        }
        script.last().append(op, f, x, y);
        searched = false;
        return true;
    }

    public void forget() {
        script.empty();
        searched = false;
    }

    public int matches() {
        int refusal = refusalOfSearch();
        if (refusal != 0) {
            return refusal;
        }
        ensureSearched();
        return search.matchCount();
    }

    public int match(int i) {
        if (refusalOfSearch() != 0) {
            return NONE;
        }
        ensureSearched();
        return search.matchNumber(i);
    }

    public boolean hit(int n, int k) {
        if (refusalOfSearch() != 0 || !program.holds(n) || !script.holds(k)) {
            return false;
        }
        ensureSearched();
        return search.isHit(n, k);
    }

    public int apply() {
        int refusal = refusalOfSearch();
        if (refusal != 0) {
            return refusal;
        }
        ensureSearched();
        if (search.hasConflict()) {
            return CONFLICT;
        }
        rewriter.measure(source);
        if (rewriter.lengthAfter() > MAX_TEXT) {
            return TEXT_TOO_LONG;
        }
        if (rewriter.nodesAfter() > MAX_NODES) {
            return TOO_MANY_NODES;
        }
        rewriter.rewrite(source);
        noteNewText();
        return rewriter.editCount();
    }

    private void noteNewText() {
        parsed = false;
        searched = false;
    }

    private boolean isWellFormed() {
        if (!parsed) {
            wellFormed = parser.read(source);
            if (wellFormed) {
                program.connect();
            }
            parsed = true;
        }
        return wellFormed;
    }

    private int refusalOfSearch() {
        if (!isWellFormed()) {
            return NOT_WELL_FORMED;
        }
        return script.isEmpty() || script.endsInDots() ? NO_WHOLE_SCRIPT : 0;
    }

    private void ensureSearched() {
        if (!searched) {
            search.run();
            searched = true;
        }
    }

    /** The characters of the text. */
    private static final class Source {
        private final char[] chars = new char[MAX_TEXT];
        private int count;

        int size() {
            return count;
        }

        boolean holds(int i) {
            return i >= 0 && i < count;
        }

        char charOf(int i) {
            return holds(i) ? chars[i] : NO_TOKEN;
        }

        void empty() {
            count = 0;
        }

        boolean append(char c) {
            if (count >= MAX_TEXT || c < FIRST_CODE || c > LAST_CODE) {
                return false;
            }
            chars[count] = c;
            count++;
            return true;
        }
    }

    /** The tokens of a text, each with its place. */
    private static final class Tokens {
        private final char[] signs = new char[MAX_TEXT];
        private final int[] places = new int[MAX_TEXT];
        private int count;

        int size() {
            return count;
        }

        /** Answers false when a comment has no second #. */
        boolean scan(Source source) {
            count = 0;
            boolean inComment = false;
            for (int i = 0; i < source.size(); i++) {
                char c = source.charOf(i);
                if (c == '#') {
                    inComment = !inComment;
                } else if (!inComment && c != ' ') {
                    append(c, i);
                }
            }
            return !inComment;
        }

        private void append(char c, int place) {
            if (count < MAX_TEXT) {
                signs[count] = c;
                places[count] = place;
                count++;
            }
        }

        char sign(int i) {
            return i >= 0 && i < count ? signs[i] : NO_TOKEN;
        }

        int place(int i) {
            return i >= 0 && i < count ? places[i] : NONE;
        }
    }

    /** A statement of the program: every statement has one node, so the two are one here. */
    private static final class Node {
        private int kind;
        private int function;
        private int x;
        private int y;
        private boolean loop;
        private int begin;
        private int end;
        private int parent;
        private int following;
        private int firstOfRow0;
        private int firstOfRow1;
        private int edge0;
        private int edge1;

        void describe(int newKind, int newFunction, int newX, int newY) {
            kind = newKind;
            function = newFunction;
            x = newX;
            y = newY;
        }

        void standAt(int newBegin, int newEnd, int newParent) {
            begin = newBegin;
            end = newEnd;
            parent = newParent;
            loop = false;
            following = NONE;
            firstOfRow0 = NONE;
            firstOfRow1 = NONE;
        }

        int successor(int k) {
            if (k == 0) {
                return edge0;
            }
            return k == 1 ? edge1 : NONE;
        }

        int successorSet() {
            int set = 1 << edge0;
            return edge1 == NONE ? set : set | 1 << edge1;
        }

        int spanLength() {
            return end - begin + 1;
        }
    }

    /** The nodes of a well-formed text and the edges between them. */
    private static final class Program {
        private final Node[] all = new Node[MAX_NODES];
        private int count;

        Program() {
            for (int n = 0; n < MAX_NODES; n++) {
                all[n] = new Node();
            }
        }

        int size() {
            return count;
        }

        boolean holds(int n) {
            return n >= 0 && n < count;
        }

        /** Node 0 stands in for a number that is none, so that no index can fail. */
        Node node(int n) {
            return all[n >= 0 && n < count ? n : 0];
        }

        void empty() {
            count = 0;
        }

        boolean isFull() {
            return count >= MAX_NODES;
        }

        /** Answers the number of a further node, or of the last one when no more may be made. */
        int append() {
            if (count < MAX_NODES) {
                count++;
            }
            return count - 1;
        }

        int exitBit() {
            return 1 << count;
        }

        void connect() {
            for (int n = 0; n < count; n++) {
                connectNode(n);
            }
        }

        private void connectNode(int n) {
            Node node = all[n];
            int after = after(n);
            node.edge1 = NONE;
            if (node.kind == RETURN) {
                node.edge0 = count;
            } else if (node.kind != TEST) {
                node.edge0 = after;
            } else if (node.loop) {
                node.edge0 = node.firstOfRow0 == NONE ? n : node.firstOfRow0;
                node.edge1 = after;
            } else {
                node.edge0 = node.firstOfRow0 == NONE ? after : node.firstOfRow0;
                node.edge1 = node.firstOfRow1 == NONE ? after : node.firstOfRow1;
            }
        }

        /** What comes after statement n, found by going up through the choices that it ends. */
        private int after(int n) {
            int at = n;
            for (int up = 0; up <= MAX_DEPTH; up++) {
                Node node = node(at);
                if (node.following != NONE) {
                    return node.following;
                }
                if (node.parent == NONE) {
                    return count;
                }
                if (node(node.parent).loop) {
                    return node.parent;
                }
                at = node.parent;
            }
            return count;
        }

        /** The nodes that have a successor in the set. */
        int leadingInto(int set) {
            int found = 0;
            for (int n = 0; n < count; n++) {
                if ((all[n].successorSet() & set) != 0) {
                    found |= 1 << n;
                }
            }
            return found;
        }

        /** All successors of the nodes of the set. */
        int successorsOf(int set) {
            int found = 0;
            for (int n = 0; n < count; n++) {
                if ((set & 1 << n) != 0) {
                    found |= all[n].successorSet();
                }
            }
            return found;
        }
    }

    /** Reads a text into the program; the rows that are open stand on a stack, the outermost at 0. */
    private static final class Parser {
        private final Program program;
        private final Tokens tokens = new Tokens();
        private final int[] rowOwner = new int[MAX_DEPTH + 1];
        private final int[] rowSide = new int[MAX_DEPTH + 1];
        private final int[] rowLast = new int[MAX_DEPTH + 1];
        private int depth;
        private int next;

        Parser(Program target) {
            program = target;
        }

        /** Answers whether the text is well-formed; if it is not, the program is of no use. */
        boolean read(Source source) {
            program.empty();
            next = 0;
            depth = 0;
            rowOwner[0] = NONE;
            rowSide[0] = 0;
            rowLast[0] = NONE;
            if (!tokens.scan(source)) {
                return false;
            }
            boolean good = true;
            for (int i = 0; i < MAX_TEXT && next < tokens.size() && good; i++) {
                char c = ahead(0);
                if (c == '}') {
                    good = closeRow();
                } else if (program.isFull()) {
                    good = false;
                } else if (c == '?' || c == '*') {
                    good = readTest(c == '*');
                } else if (c == '!') {
                    good = readReturn();
                } else {
                    good = FUNCTIONS.indexOf(c) < 0 ? readAssignment() : readCall();
                }
            }
            return good && next == tokens.size() && depth == 0;
        }

        private char ahead(int i) {
            return tokens.sign(next + i);
        }

        private boolean readAssignment() {
            int x = VARIABLES.indexOf(ahead(0));
            int y = VARIABLES.indexOf(ahead(2));
            if (x < 0 || ahead(1) != '=' || y < 0 || ahead(3) != ';') {
                return false;
            }
            addNode(4).describe(ASSIGNMENT, 0, x, y);
            return true;
        }

        private boolean readCall() {
            int function = FUNCTIONS.indexOf(ahead(0));
            int x = VARIABLES.indexOf(ahead(2));
            if (function < 0 || ahead(1) != '(' || x < 0 || ahead(3) != ')' || ahead(4) != ';') {
                return false;
            }
            addNode(5).describe(CALL, function, x, 0);
            return true;
        }

        private boolean readReturn() {
            int x = VARIABLES.indexOf(ahead(1));
            if (x < 0 || ahead(2) != ';') {
                return false;
            }
            addNode(3).describe(RETURN, 0, x, 0);
            return true;
        }

        private boolean readTest(boolean loop) {
            int x = VARIABLES.indexOf(ahead(1));
            if (x < 0) {
                return false;
            }
            Node test = addNode(2);
            test.describe(TEST, 0, x, 0);
            test.loop = loop;
            return openRow(rowLast[depth], 0);
        }

        /** Appends a node, whose span is the next tokens, to the row that is open. */
        private Node addNode(int tokenCount) {
            int n = program.append();
            Node node = program.node(n);
            int owner = rowOwner[depth];
            node.standAt(tokens.place(next), tokens.place(next + tokenCount - 1), owner);
            if (rowLast[depth] != NONE) {
                program.node(rowLast[depth]).following = n;
            } else if (owner != NONE && rowSide[depth] == 0) {
                program.node(owner).firstOfRow0 = n;
            } else if (owner != NONE) {
                program.node(owner).firstOfRow1 = n;
            }
            rowLast[depth] = n;
            next += tokenCount;
            return node;
        }

        private boolean openRow(int owner, int side) {
            if (ahead(0) != '{' || depth >= MAX_DEPTH) {
                return false;
            }
            next++;
            depth++;
            rowOwner[depth] = owner;
            rowSide[depth] = side;
            rowLast[depth] = NONE;
            return true;
        }

        private boolean closeRow() {
            if (depth <= 0) {
                return false;
            }
            int owner = rowOwner[depth];
            boolean mayGoOn = rowSide[depth] == 0 && !program.node(owner).loop;
            next++;
            depth--;
            if (mayGoOn && ahead(0) == ':') {
                next++;
                return openRow(owner, 1);
            }
            return true;
        }
    }

    /** A statement with operands that may be unknowns; a binding is X + 4 * Y + 16 * Z. */
    private static final class Pattern {
        private int kind = NONE;
        private int function;
        private int x;
        private int y;

        static boolean isSound(int kind, int function, int x, int y) {
            if (kind < CALL || kind > TEST) {
                return false;
            }
            if (kind == CALL && !isFunction(function)) {
                return false;
            }
            return isOperand(x) && (kind != ASSIGNMENT || isOperand(y));
        }

        private static boolean isFunction(int function) {
            return function >= 0 && function < FUNCTION_COUNT;
        }

        private static boolean isOperand(int operand) {
            return operand >= 0 && operand < VARIABLE_COUNT + UNKNOWN_COUNT;
        }

        /** The unknowns that a pattern names, as bits. */
        static int unknownsIn(int kind, int x, int y) {
            return kind == ASSIGNMENT ? unknownBit(x) | unknownBit(y) : unknownBit(x);
        }

        private static int unknownBit(int operand) {
            return operand < VARIABLE_COUNT ? 0 : 1 << operand - VARIABLE_COUNT;
        }

        static int bound(int operand, int binding) {
            int unknown = operand - VARIABLE_COUNT;
            return (unknown < 0 ? operand : binding >> 2 * unknown) & 3;
        }

        /** What the kind does not name is kept as 0, as it is in nodes. */
        void describe(int newKind, int newFunction, int newX, int newY) {
            kind = newKind;
            function = newKind == CALL ? newFunction : 0;
            x = newKind == NONE ? 0 : newX;
            y = newKind == ASSIGNMENT ? newY : 0;
        }

        int unknowns() {
            return unknownsIn(kind, x, y);
        }

        char functionSign() {
            return isFunction(function) ? FUNCTIONS.charAt(function) : NO_TOKEN;
        }

        /** The nodes like the pattern; none when it has no kind, as no node is without one. */
        int likeIn(Program program, int binding) {
            int boundX = bound(x, binding);
            int boundY = bound(y, binding);
            int found = 0;
            for (int n = 0; n < program.size(); n++) {
                Node node = program.node(n);
                boolean sameKind = node.kind == kind && node.function == function;
                if (sameKind && node.x == boundX && node.y == boundY) {
                    found |= 1 << n;
                }
            }
            return found;
        }
    }

    /** An item of the script with its new statements and what stands behind it. */
    private static final class Item {
        private final Pattern pattern = new Pattern();
        private final Pattern forbidden = new Pattern();
        private final Pattern[] added = new Pattern[MAX_NEW];
        private int addedCount;
        private boolean out;
        private boolean dotted;

        Item() {
            for (int i = 0; i < MAX_NEW; i++) {
                added[i] = new Pattern();
            }
        }

        void begin(boolean isOut, int kind, int function, int x, int y) {
            pattern.describe(kind, function, x, y);
            addedCount = 0;
            out = isOut;
            dotted = false;
        }

        void follow(int kind, int function, int x, int y) {
            forbidden.describe(kind, function, x, y);
            dotted = true;
        }

        boolean takesNew() {
            return pattern.kind != TEST && addedCount < MAX_NEW;
        }

        void append(int kind, int function, int x, int y) {
            if (addedCount < MAX_NEW) {
                added[addedCount].describe(kind, function, x, y);
                addedCount++;
            }
        }

        boolean edits() {
            return out || addedCount > 0;
        }
    }

    /** The row of items. */
    private static final class Script {
        private final Item[] items = new Item[MAX_ITEMS];
        private int count;
        private int unknowns;

        Script() {
            for (int i = 0; i < MAX_ITEMS; i++) {
                items[i] = new Item();
            }
        }

        int size() {
            return count;
        }

        boolean isEmpty() {
            return count == 0;
        }

        boolean holds(int k) {
            return k >= 0 && k < count;
        }

        /** Item 0 stands in for a number that is none, so that no index can fail. */
        Item itemOf(int k) {
            return items[holds(k) ? k : 0];
        }

        Item last() {
            return itemOf(count - 1);
        }

        boolean endsInDots() {
            return count > 0 && last().dotted;
        }

        void empty() {
            count = 0;
            unknowns = 0;
        }

        boolean append(boolean out, int kind, int function, int x, int y) {
            if (count >= MAX_ITEMS) {
                return false;
            }
            items[count].begin(out, kind, function, x, y);
            unknowns |= items[count].pattern.unknowns();
            count++;
            return true;
        }

        boolean knowsUnknowns(int kind, int x, int y) {
            return (Pattern.unknownsIn(kind, x, y) & ~unknowns) == 0;
        }

        /** Whether the binding leaves every unknown that no item names at 0. */
        boolean allows(int binding) {
            for (int u = 0; u < UNKNOWN_COUNT; u++) {
                boolean named = (unknowns & 1 << u) != 0;
                if (!named && (binding >> 2 * u & 3) != 0) {
                    return false;
                }
            }
            return true;
        }
    }

    /** What becomes of one node: nothing, or its span goes and a text comes, or one of these. */
    private static final class Edit {
        private final char[] put = new char[MAX_NEW * LONGEST_STATEMENT];
        private int size;
        private int statements;
        private boolean out;

        boolean isNothing() {
            return !out && statements == 0;
        }

        void reset() {
            size = 0;
            statements = 0;
            out = false;
        }

        void build(Item item, int binding) {
            reset();
            out = item.out;
            for (int i = 0; i < item.addedCount && i < MAX_NEW; i++) {
                write(item.added[i], binding);
                statements++;
            }
        }

        private void write(Pattern statement, int binding) {
            char x = VARIABLES.charAt(Pattern.bound(statement.x, binding));
            if (statement.kind == CALL) {
                write(statement.functionSign());
                write('(');
                write(x);
                write(')');
            } else if (statement.kind == ASSIGNMENT) {
                write(x);
                write('=');
                write(VARIABLES.charAt(Pattern.bound(statement.y, binding)));
            } else {
                write('!');
                write(x);
            }
            write(';');
        }

        private void write(char c) {
            if (size < put.length) {
                put[size] = c;
                size++;
            }
        }

        boolean isSame(Edit other) {
            if (out != other.out || size != other.size) {
                return false;
            }
            for (int i = 0; i < size; i++) {
                if (put[i] != other.put[i]) {
                    return false;
                }
            }
            return true;
        }

        void copyFrom(Edit other) {
            out = other.out;
            statements = other.statements;
            size = other.size;
            System.arraycopy(other.put, 0, put, 0, put.length);
        }
    }

    /** All matches of the script in the program, with the hits and edits that come of them. */
    private static final class Search {
        private final Program program;
        private final Script script;
        private final int[] matched = new int[BINDINGS];
        private final int[] hits = new int[MAX_ITEMS];
        private final int[] takes = new int[MAX_ITEMS];
        private final Edit[] edits = new Edit[MAX_NODES];
        private final Edit wanted = new Edit();
        private boolean conflict;

        Search(Program where, Script what) {
            program = where;
            script = what;
            for (int n = 0; n < MAX_NODES; n++) {
                edits[n] = new Edit();
            }
        }

        void run() {
            reset();
            for (int binding = 0; binding < BINDINGS; binding++) {
                if (script.allows(binding)) {
                    findTaken(binding);
                    matched[binding] = takes[0];
                    if (takes[0] != 0) {
                        followHits(binding);
                    }
                }
            }
        }

        private void reset() {
            conflict = false;
            for (int binding = 0; binding < BINDINGS; binding++) {
                matched[binding] = 0;
            }
            for (int k = 0; k < MAX_ITEMS; k++) {
                hits[k] = 0;
            }
            for (int n = 0; n < MAX_NODES; n++) {
                edits[n].reset();
            }
        }

        /** Goes from the last item to the first, as what an item takes hangs on the next one. */
        private void findTaken(int binding) {
            int lastItem = script.size() - 1;
            for (int k = lastItem; k >= 0; k--) {
                Item item = script.itemOf(k);
                int taken = item.pattern.likeIn(program, binding);
                if (k < lastItem) {
                    taken &= ~program.leadingInto(ruinousStarts(item, takes[k + 1], binding));
                }
                takes[k] = taken;
            }
        }

        /** The successors that a node must not have if the item is to take it. */
        private int ruinousStarts(Item item, int takenNext, int binding) {
            if (!item.dotted) {
                return ~takenNext;
            }
            int bad = program.exitBit() | item.forbidden.likeIn(program, binding) & ~takenNext;
            boolean grows = true;
            for (int round = 0; round <= MAX_NODES && grows; round++) {
                int more = bad | program.leadingInto(bad) & ~takenNext;
                grows = more != bad;
                bad = more;
            }
            return bad;
        }

        /** All matches of one binding are followed at once: a hit leads to the same hits in each. */
        private void followHits(int binding) {
            int now = takes[0];
            for (int k = 0; k < script.size(); k++) {
                Item item = script.itemOf(k);
                hits[k] |= now;
                if (item.edits()) {
                    wanted.build(item, binding);
                    noteEdits(now);
                }
                if (k + 1 < script.size()) {
                    now = item.dotted ? firstTaken(now, takes[k + 1]) : program.successorsOf(now);
                }
            }
        }

        private int firstTaken(int from, int taken) {
            int seen = program.successorsOf(from);
            boolean grows = true;
            for (int round = 0; round <= MAX_NODES && grows; round++) {
                int more = seen | program.successorsOf(seen & ~taken);
                grows = more != seen;
                seen = more;
            }
            return seen & taken;
        }

        private void noteEdits(int set) {
            for (int n = 0; n < program.size(); n++) {
                if ((set & 1 << n) == 0) {
                    continue;
                }
                if (edits[n].isNothing()) {
                    edits[n].copyFrom(wanted);
                } else if (!edits[n].isSame(wanted)) {
                    conflict = true;
                }
            }
        }

        boolean hasConflict() {
            return conflict;
        }

        int matchCount() {
            int found = 0;
            for (int binding = 0; binding < BINDINGS; binding++) {
                found += Integer.bitCount(matched[binding]);
            }
            return found;
        }

        int matchNumber(int i) {
            int before = 0;
            for (int n = 0; n < program.size(); n++) {
                for (int binding = 0; binding < BINDINGS; binding++) {
                    if ((matched[binding] & 1 << n) != 0) {
                        if (before == i) {
                            return BINDINGS * n + binding;
                        }
                        before++;
                    }
                }
            }
            return NONE;
        }

        boolean isHit(int n, int k) {
            return program.holds(n) && script.holds(k) && (hits[k] & 1 << n) != 0;
        }

        /** Edit 0 stands in for a number that is none, so that no index can fail. */
        Edit editOf(int n) {
            return edits[program.holds(n) ? n : 0];
        }
    }

    /** Lays the edits that a search has found into the text. */
    private static final class Rewriter {
        private final Program program;
        private final Search search;
        private final char[] old = new char[MAX_TEXT];
        private int length;
        private int nodeCount;
        private int edited;

        Rewriter(Program where, Search found) {
            program = where;
            search = found;
        }

        void measure(Source source) {
            length = source.size();
            nodeCount = program.size();
            edited = 0;
            for (int n = 0; n < program.size(); n++) {
                Edit edit = search.editOf(n);
                length += edit.size;
                nodeCount += edit.statements;
                if (edit.out) {
                    length -= program.node(n).spanLength();
                    nodeCount--;
                }
                if (!edit.isNothing()) {
                    edited++;
                }
            }
        }

        int lengthAfter() {
            return length;
        }

        int nodesAfter() {
            return nodeCount;
        }

        int editCount() {
            return edited;
        }

        /** Spans lie in the text as their nodes are numbered, and none within another. */
        void rewrite(Source source) {
            int oldLength = source.size();
            for (int i = 0; i < oldLength; i++) {
                old[i] = source.charOf(i);
            }
            source.empty();
            int kept = 0;
            for (int n = 0; n < program.size(); n++) {
                Edit edit = search.editOf(n);
                if (!edit.isNothing()) {
                    Node node = program.node(n);
                    copyOld(source, kept, edit.out ? node.begin : node.end + 1);
                    copyNew(source, edit);
                    kept = node.end + 1;
                }
            }
            copyOld(source, kept, oldLength);
        }

        private void copyOld(Source source, int from, int to) {
            for (int i = Math.max(from, 0); i < to && i < MAX_TEXT; i++) {
                source.append(old[i]);
            }
        }

        private static void copyNew(Source source, Edit edit) {
            for (int i = 0; i < edit.size && i < edit.put.length; i++) {
                source.append(edit.put[i]);
            }
        }
    }
}
