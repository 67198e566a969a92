/** A prover by connection tableaux: the texts, the clauses and the search of the document. */
public final class PathProver {
    private static final int NONE = -1;
    private static final int RANGE = -2;
    private static final int NO_ROOM = -4;
    private static final int FAULTS = -10;
    private static final int TOO_LARGE = 5;
    private static final int MOST_LIMIT = 20;
    private static final int MOST_STEPS = 20000;

    /** The bound of loops whose real end is told by something else. */
    private static final int FAR = 1_000_000;

    private final Text text;
    private final Store store;
    private final Tree tree;
    private final Parser parser;
    private final Maker maker;
    private final Search finder;
    private final Page page;
    private int faultPlace;

    public PathProver() {
        text = new Text();
        store = new Store();
        tree = new Tree();
        parser = new Parser(text, store, tree);
        maker = new Maker(store, tree, new Way());
        Tableau tableau = new Tableau(store);
        Walk left = new Walk(store, tableau);
        Walk right = new Walk(store, tableau);
        Walk inner = new Walk(store, tableau);
        finder = new Search(store, tableau, new Unifier(store, tableau, left, right, inner));
        page = new Page(store, inner);
        faultPlace = NONE;
    }

    public int feed(long v, int n) {
        if (n < 0 || n > 8) {
            return RANGE;
        }
        if (n == 0) {
            text.length = 0;
            return 0;
        }
        return text.append(v, n) ? text.length : NO_ROOM;
    }

    public int read() {
        int clauses = store.clauses;
        int symbols = store.symbols;
        int functions = store.functions;
        parser.begin();
        for (int i = 0; i < Text.ROOM && parser.next() != Text.END; i++) {
            int first = text.start;
            tree.begin();
            int root = parser.formula();
            parser.want(Text.DOT);
            if (parser.fault != 0) {
                break;
            }
            if (store.symbols > Store.MOST_SYMBOLS || !maker.make(root)) {
                parser.fail(TOO_LARGE, first);
                break;
            }
        }
        if (parser.fault != 0) {
            store.takeBack(clauses, symbols, functions);
            faultPlace = parser.faultPlace;
            return FAULTS - parser.fault;
        }
        faultPlace = NONE;
        finder.forget();
        return store.clauses;
    }

    public int place() {
        return faultPlace;
    }

    public int clear() {
        int clauses = store.clauses;
        store.takeBack(0, 0, 0);
        finder.forget();
        return clauses;
    }

    public int count(int what) {
        switch (what) {
            case 0:
                return store.clauses;
            case 1:
                return store.symbols;
            case 2:
                return store.functions;
            default:
                return RANGE;
        }
    }

    public int clause(int c, int what) {
        if (!store.has(c)) {
            return NONE;
        }
        int first = store.first[c];
        int behind = store.first[c + 1];
        switch (what) {
            case 0:
                return behind - first;
            case 1:
                return store.variables[c];
            case 2:
                return store.position[behind] - store.position[first];
            default:
                return RANGE;
        }
    }

    public int write(int c) {
        if (!store.has(c)) {
            return NONE;
        }
        page.begin();
        page.row(c, Tableau.FREE);
        return page.finish();
    }

    public int octet(int i) {
        return i < 0 || i >= page.length ? NONE : page.written[i] & 0xFF;
    }

    public int search(int limit, int steps) {
        if (limit < 1 || limit > MOST_LIMIT || steps < 0 || steps > MOST_STEPS) {
            return RANGE;
        }
        return finder.run(limit, steps);
    }

    public int told(int what) {
        switch (what) {
            case 0:
                return finder.steps;
            case 1:
                return finder.limit;
            case 2:
                return finder.moves;
            default:
                return RANGE;
        }
    }

    public int move(int k, int what) {
        if (k < 0 || k >= finder.moves) {
            return NONE;
        }
        switch (what) {
            case 0:
                return finder.kind[k];
            case 1:
                return finder.rowOf(k);
            case 2:
                return finder.connected(k);
            case 3:
                return finder.above(k);
            default:
                return RANGE;
        }
    }

    public int show(int k) {
        if (k < 0 || k >= finder.moves) {
            return NONE;
        }
        page.begin();
        if (k == 0) {
            page.row(finder.rowOf(0), 0);
        } else {
            page.literal(finder.goalSource(k), finder.goalBase(k));
        }
        return page.finish();
    }

    /** THE TEXT and its tokens: a token is made only when it is looked at. */
    private static final class Text {
        static final int ROOM = 1500;
        static final int LONGEST = 8;

        static final int WRONG = 0;
        static final int END = 1;
        static final int NAME = 2;
        static final int VARIABLE = 3;
        static final int OPEN = 4;
        static final int CLOSE = 5;
        static final int COMMA = 6;
        static final int DOT = 7;
        static final int COLON = 8;
        static final int NOT = 9;
        static final int AND = 10;
        static final int OR = 11;
        static final int ALL = 12;
        static final int SOME = 13;
        static final int IMPLIES = 14;
        static final int IFF = 15;

        private static final String BLANKS = "\t\n\r ";
        private static final String SMALL = "abcdefghijklmnopqrstuvwxyz";
        private static final String LARGE = "ABCDEFGHIJKLMNOPQRSTUVWXYZ";
        private static final String WORD =
            "abcdefghijklmnopqrstuvwxyzABCDEFGHIJKLMNOPQRSTUVWXYZ0123456789_";
        /** The tokens of one sign, in the order of their kinds from OPEN on. */
        private static final String SINGLE = "(),.:~&|!?";

        final byte[] bytes = new byte[ROOM];
        int length;
        int start;
        /** The signs of a NAME or VARIABLE, the first one highest. */
        long word;
        private int kind;
        private int behind;
        private boolean looked;

        boolean append(long v, int n) {
            if (length + n > ROOM) {
                return false;
            }
            for (int i = n - 1; i >= 0; i--) {
                bytes[length] = (byte) (v >> (8 * i));
                length++;
            }
            return true;
        }

        void begin() {
            behind = 0;
            looked = false;
        }

        void take() {
            looked = false;
        }

        int look() {
            if (looked) {
                return kind;
            }
            looked = true;
            start = behind;
            while (start < length && BLANKS.indexOf((char) (bytes[start] & 0xFF)) >= 0) {
                start++;
            }
            behind = start;
            if (start >= length) {
                kind = END;
                return kind;
            }
            char sign = (char) (bytes[start] & 0xFF);
            if (SMALL.indexOf(sign) >= 0) {
                kind = scanWord(NAME);
            } else if (LARGE.indexOf(sign) >= 0) {
                kind = scanWord(VARIABLE);
            } else {
                kind = scanMark(sign);
            }
            return kind;
        }

        private int scanWord(int ofKind) {
            long signs = 0;
            while (behind < length && WORD.indexOf((char) (bytes[behind] & 0xFF)) >= 0) {
                signs = signs << 8 | bytes[behind] & 0xFF;
                behind++;
            }
            word = signs;
            return behind - start > LONGEST ? WRONG : ofKind;
        }

        private int scanMark(char sign) {
            int rest = length - start;
            if (sign == '=' && rest > 1 && bytes[start + 1] == '>') {
                behind = start + 2;
                return IMPLIES;
            }
            if (sign == '<' && rest > 2 && bytes[start + 1] == '=' && bytes[start + 2] == '>') {
                behind = start + 3;
                return IFF;
            }
            int which = SINGLE.indexOf(sign);
            if (which < 0) {
                return WRONG;
            }
            behind = start + 1;
            return OPEN + which;
        }
    }

    /**
     * What reading adds and clearing empties: symbols, and clauses as rows of cells.
     * An atom lies in prefix order; a symbol's cell is its number * 8 + how many arguments
     * follow it, a variable's cell is -1 - its number.
     */
    private static final class Store {
        static final int MOST_SYMBOLS = 60;
        static final int MOST_CLAUSES = 100;
        static final int MOST_LITERALS = 12;
        static final int MOST_VARIABLES = 10;
        static final int MOST_CELLS = 200;
        /** A formula's new names are counted only when it has been read: all of a text's may be new. */
        static final int SYMBOL_ROOM = MOST_SYMBOLS + Text.ROOM / 2 + 1;
        /** Functions of part 2 are numbered from here, apart from all names in texts. */
        static final int FIRST_FUNCTION = 4096;
        static final int MOST_FUNCTIONS = 200_000_000;
        static final int ARITY_BITS = 3;
        static final int ARITY_MASK = 7;
        static final int UNSETTLED = -1;

        final long[] words = new long[SYMBOL_ROOM];
        private final int[] arity = new int[SYMBOL_ROOM];
        private final boolean[] predicate = new boolean[SYMBOL_ROOM];
        int symbols;
        int functions;

        int clauses;
        final int[] first = new int[MOST_CLAUSES + 1];
        final int[] variables = new int[MOST_CLAUSES];
        final int[] position = new int[MOST_CLAUSES * MOST_LITERALS + 1];
        final boolean[] negative = new boolean[MOST_CLAUSES * MOST_LITERALS];
        final int[] owner = new int[MOST_CLAUSES * MOST_LITERALS];
        final int[] cells = new int[MOST_CLAUSES * MOST_CELLS];

        boolean has(int c) {
            return c >= 0 && c < clauses;
        }

        int literals() {
            return first[clauses];
        }

        /** The number of a name, a new one if need be; -1 if there is no room. */
        int symbol(long word) {
            for (int i = 0; i < symbols; i++) {
                if (words[i] == word) {
                    return i;
                }
            }
            if (symbols >= SYMBOL_ROOM) {
                return -1;
            }
            words[symbols] = word;
            arity[symbols] = UNSETTLED;
            symbols++;
            return symbols - 1;
        }

        /** Tells whether a symbol may be used like this; its first use decides. */
        boolean settle(int symbol, int arguments, boolean asPredicate) {
            if (arity[symbol] == UNSETTLED) {
                arity[symbol] = arguments;
                predicate[symbol] = asPredicate;
            }
            return arity[symbol] == arguments && predicate[symbol] == asPredicate;
        }

        void takeBack(int toClauses, int toSymbols, int toFunctions) {
            clauses = toClauses;
            symbols = toSymbols;
            functions = toFunctions;
        }

        /** Tells whether two literals are of other signs and of the same predicate. */
        boolean opposed(int literal, int other) {
            return negative[literal] != negative[other] && cells[position[literal]] == cells[position[other]];
        }

        /** Tells whether two literals are of the same sign and of the same predicate. */
        boolean alike(int literal, int other) {
            return negative[literal] == negative[other] && cells[position[literal]] == cells[position[other]];
        }

        boolean positive(int c) {
            for (int i = first[c]; i < first[c + 1]; i++) {
                if (negative[i]) {
                    return false;
                }
            }
            return true;
        }
    }

    /** The formula that is read: nodes of two parts at most, and the cells of its atoms. */
    private static final class Tree {
        static final int ATOM = 0;
        static final int NOT = 1;
        static final int AND = 2;
        static final int OR = 3;
        static final int IMPLIES = 4;
        static final int IFF = 5;
        static final int ALL = 6;
        static final int SOME = 7;

        /** Far above every limit, and doubled it still is an int. */
        private static final int HEAVY = 1_000_000;
        private static final int ROOM = Text.ROOM + 1;

        final int[] kind = new int[ROOM];
        /** The left part; the first cell of an ATOM; the variable of ALL and SOME. */
        final int[] left = new int[ROOM];
        /** The right part; the cell behind an ATOM; what stands behind ALL and SOME. */
        final int[] right = new int[ROOM];
        /** Symbols and variables in atoms, and quantifiers, once <=> is written out. */
        final int[] weight = new int[ROOM];
        int nodes;
        final int[] cells = new int[ROOM];
        int cellTotal;
        private final long[] names = new long[ROOM];
        private final int[] bound = new int[ROOM];
        private final boolean[] free = new boolean[ROOM];
        private int nameTotal;
        /** Variables that are bound by nothing, as they come first. */
        final int[] freeNames = new int[ROOM];
        int freeTotal;

        void begin() {
            nodes = 0;
            cellTotal = 0;
            nameTotal = 0;
            freeTotal = 0;
        }

        int variable(long word) {
            for (int i = 0; i < nameTotal; i++) {
                if (names[i] == word) {
                    return i;
                }
            }
            if (nameTotal >= ROOM) {
                return 0;
            }
            names[nameTotal] = word;
            bound[nameTotal] = 0;
            free[nameTotal] = false;
            nameTotal++;
            return nameTotal - 1;
        }

        void bind(int name, int by) {
            bound[name] += by;
        }

        void addVariable(int name) {
            addCell(-1 - name);
            if (bound[name] == 0 && !free[name]) {
                free[name] = true;
                freeNames[freeTotal] = name;
                freeTotal++;
            }
        }

        int addCell(int cell) {
            if (cellTotal >= ROOM) {
                return 0;
            }
            cells[cellTotal] = cell;
            cellTotal++;
            return cellTotal - 1;
        }

        int add(int ofKind, int toLeft, int toRight) {
            if (nodes >= ROOM) {
                return 0;
            }
            kind[nodes] = ofKind;
            left[nodes] = toLeft;
            right[nodes] = toRight;
            weight[nodes] = Math.min(HEAVY, weigh(ofKind, toLeft, toRight));
            nodes++;
            return nodes - 1;
        }

        private int weigh(int ofKind, int toLeft, int toRight) {
            switch (ofKind) {
                case ATOM:
                    return toRight - toLeft;
                case NOT:
                    return weight[toLeft];
                case ALL:
                case SOME:
                    return 1 + weight[toRight];
                case IFF:
                    return 2 * (weight[toLeft] + weight[toRight]);
                default:
                    return weight[toLeft] + weight[toRight];
            }
        }
    }

    /** Reads formulas token by token; the first fault stays, and from then on no token fits. */
    private static final class Parser {
        private static final int UNKNOWN = 1;
        private static final int MISFIT = 2;
        private static final int CLASH = 3;
        private static final int ARGUMENTS = 4;
        private static final int DEEP = 6;
        private static final int MOST_OPEN = 30;
        private static final int MOST_ARGUMENTS = 5;

        /** The signs between parts, from the loosest to the tightest, and the nodes they make. */
        private static final int[] SIGNS = {Text.IFF, Text.IMPLIES, Text.OR, Text.AND};
        private static final int[] KINDS = {Tree.IFF, Tree.IMPLIES, Tree.OR, Tree.AND};
        private static final int FROM_RIGHT = 1;

        private final Text text;
        private final Store store;
        private final Tree tree;
        private int open;
        int fault;
        int faultPlace;

        Parser(Text text, Store store, Tree tree) {
            this.text = text;
            this.store = store;
            this.tree = tree;
        }

        void begin() {
            text.begin();
            open = 0;
            fault = 0;
        }

        void fail(int which, int at) {
            if (fault == 0) {
                fault = which;
                faultPlace = at;
            }
        }

        /** Looks at the next token; END is answered behind a fault, so that every loop ends. */
        int next() {
            if (fault != 0) {
                return Text.END;
            }
            int kind = text.look();
            if (kind == Text.WRONG) {
                fail(UNKNOWN, text.start);
                return Text.END;
            }
            return kind;
        }

        boolean want(int kind) {
            if (next() != kind) {
                fail(MISFIT, text.start);
                return false;
            }
            text.take();
            return true;
        }

        /** Takes a token that stays open for a while, if there are not too many such. */
        private boolean opens() {
            if (open >= MOST_OPEN) {
                fail(DEEP, text.start);
                return false;
            }
            open++;
            text.take();
            return true;
        }

        int formula() {
            return chain(0);
        }

        /** A formula (level 0), an imp (1), an or (2), an and (3); its node. */
        private int chain(int level) {
            if (level >= SIGNS.length) {
                return unary();
            }
            int node = chain(level + 1);
            for (int i = 0; i < Text.ROOM && next() == SIGNS[level]; i++) {
                boolean counted = level <= FROM_RIGHT;
                if (!counted) {
                    text.take();
                } else if (!opens()) {
                    return node;
                }
                int right = chain(level == FROM_RIGHT ? level : level + 1);
                if (counted) {
                    open--;
                }
                node = tree.add(KINDS[level], node, right);
            }
            return node;
        }

        private int unary() {
            int kind = next();
            int node = 0;
            if (kind == Text.NAME) {
                int from = tree.cellTotal;
                application(true);
                return tree.add(Tree.ATOM, from, tree.cellTotal);
            }
            boolean quantifier = kind == Text.ALL || kind == Text.SOME;
            if (!quantifier && kind != Text.NOT && kind != Text.OPEN) {
                fail(MISFIT, text.start);
                return node;
            }
            if (!opens()) {
                return node;
            }
            if (kind == Text.NOT) {
                node = tree.add(Tree.NOT, unary(), 0);
            } else if (kind == Text.OPEN) {
                node = chain(0);
                want(Text.CLOSE);
            } else if (want(Text.VARIABLE)) {
                int name = tree.variable(text.word);
                if (want(Text.COLON)) {
                    tree.bind(name, 1);
                    node = tree.add(kind == Text.ALL ? Tree.ALL : Tree.SOME, name, unary());
                    tree.bind(name, -1);
                }
            }
            open--;
            return node;
        }

        /** A NAME and its arguments, as cells. */
        private void application(boolean predicate) {
            int at = text.start;
            int symbol = store.symbol(text.word);
            text.take();
            if (symbol < 0) {
                fail(TOO_LARGE, at);
                return;
            }
            int cell = tree.addCell(symbol << Store.ARITY_BITS);
            int arguments = 0;
            if (next() == Text.OPEN) {
                if (!opens()) {
                    return;
                }
                boolean another = true;
                while (another && arguments < MOST_ARGUMENTS) {
                    if (next() == Text.NAME) {
                        application(false);
                    } else if (want(Text.VARIABLE)) {
                        tree.addVariable(tree.variable(text.word));
                    }
                    arguments++;
                    another = next() == Text.COMMA;
                    if (another) {
                        text.take();
                    }
                }
                if (another) {
                    fail(ARGUMENTS, at);
                }
                want(Text.CLOSE);
                open--;
            }
            if (fault == 0 && !store.settle(symbol, arguments, predicate)) {
                fail(CLASH, at);
            }
            tree.cells[cell] += arguments;
        }
    }

    /** Makes clauses of a tree: signs go inside, quantifiers go, and the parts are put together. */
    private static final class Maker {
        private static final int MOST_READ = 250;
        private static final int MOST_WEIGHT = 3000;
        private static final int MOST_ARGUMENTS = 5;
        private static final int WORK_ROOM = 3 * Text.ROOM;
        private static final int SCOPE_ROOM = 40;

        /** What is to be done, in the lowest bits of an entry; above them the node, if any. */
        private static final int PLAIN = 0;
        private static final int NEGATED = 1;
        private static final int BOTH = 2;
        private static final int EITHER = 3;
        private static final int LEAVE = 4;
        private static final int BITS = 3;
        private static final int MASK = 7;

        private final Store store;
        private final Tree tree;
        private final Way way;
        private final int[] work = new int[WORK_ROOM];
        private int top;
        private boolean tooLarge;
        /** What each name of the tree stands for now: a variable's or a function's cell. */
        private final int[] value = new int[Tree.ROOM];
        private final int[] scopeName = new int[SCOPE_ROOM];
        private final int[] scopeValue = new int[SCOPE_ROOM];
        private final int[] scopeAround = new int[SCOPE_ROOM];
        private int scopes;
        /** The variables of all ! around, from outside to inside. */
        private final int[] around = new int[MOST_READ + SCOPE_ROOM];
        private int aroundTotal;
        private int variables;

        Maker(Store store, Tree tree, Way way) {
            this.store = store;
            this.tree = tree;
            this.way = way;
        }

        /** The clauses of a tree come behind those in the store; false if something is too large. */
        boolean make(int root) {
            if (tree.cellTotal > MOST_READ || tree.weight[root] + tree.freeTotal > MOST_WEIGHT) {
                return false;
            }
            way.begin();
            top = 0;
            tooLarge = false;
            scopes = 0;
            aroundTotal = 0;
            variables = 0;
            for (int i = 0; i < tree.freeTotal; i++) {
                value[tree.freeNames[i]] = newVariable();
            }
            push(PLAIN, root);
            for (int i = 0; i < FAR && top > 0 && !tooLarge; i++) {
                top--;
                perform(work[top] & MASK, work[top] >> BITS);
            }
            return !tooLarge && way.deliver(store);
        }

        private void push(int what, int node) {
            if (top >= WORK_ROOM) {
                tooLarge = true;
                return;
            }
            work[top] = node << BITS | what;
            top++;
        }

        private void perform(int what, int node) {
            switch (what) {
                case BOTH:
                    tooLarge |= !way.both();
                    break;
                case EITHER:
                    tooLarge |= !way.either();
                    break;
                case LEAVE:
                    leave();
                    break;
                default:
                    visit(node, what);
                    break;
            }
        }

        private void visit(int node, int sign) {
            int left = tree.left[node];
            int right = tree.right[node];
            int other = sign == PLAIN ? NEGATED : PLAIN;
            int loose = sign == PLAIN ? EITHER : BOTH;
            int tight = sign == PLAIN ? BOTH : EITHER;
            switch (tree.kind[node]) {
                case Tree.ATOM:
                    literal(left, right, sign == NEGATED);
                    break;
                case Tree.NOT:
                    push(other, left);
                    break;
                case Tree.AND:
                    pushPair(tight, sign, left, sign, right);
                    break;
                case Tree.OR:
                    pushPair(loose, sign, left, sign, right);
                    break;
                case Tree.IMPLIES:
                    pushPair(loose, other, left, sign, right);
                    break;
                case Tree.IFF:
                    push(tight, 0);
                    pushPair(loose, other, right, sign, left);
                    pushPair(loose, other, left, sign, right);
                    break;
                default:
                    enter(left, (tree.kind[node] == Tree.ALL) == (sign == PLAIN));
                    push(LEAVE, 0);
                    push(sign, right);
                    break;
            }
        }

        /** What is pushed last is done first: the left part, the right part, then their joining. */
        private void pushPair(int joining, int leftSign, int left, int rightSign, int right) {
            push(joining, 0);
            push(rightSign, right);
            push(leftSign, left);
        }

        private int newVariable() {
            variables++;
            if (aroundTotal < around.length) {
                around[aroundTotal] = -variables;
                aroundTotal++;
            }
            return -variables;
        }

        private void enter(int name, boolean universal) {
            if (scopes >= SCOPE_ROOM || !universal && !functionFits()) {
                tooLarge = true;
                return;
            }
            scopeName[scopes] = name;
            scopeValue[scopes] = value[name];
            scopeAround[scopes] = aroundTotal;
            scopes++;
            if (universal) {
                value[name] = newVariable();
            } else {
                store.functions++;
                int number = Store.FIRST_FUNCTION + store.functions;
                value[name] = number << Store.ARITY_BITS | aroundTotal;
            }
        }

        private boolean functionFits() {
            return aroundTotal <= MOST_ARGUMENTS && store.functions < Store.MOST_FUNCTIONS;
        }

        private void leave() {
            if (scopes > 0) {
                scopes--;
                value[scopeName[scopes]] = scopeValue[scopes];
                aroundTotal = scopeAround[scopes];
            }
        }

        private void literal(int from, int behind, boolean negated) {
            if (!way.beginLiteral(negated)) {
                tooLarge = true;
                return;
            }
            for (int i = from; i < behind; i++) {
                int cell = tree.cells[i];
                if (cell >= 0) {
                    way.addCell(cell);
                    continue;
                }
                int meant = value[-1 - cell];
                way.addCell(meant);
                // A function's arguments are the outermost variables: those that were around its ?.
                int arguments = meant < 0 ? 0 : meant & Store.ARITY_MASK;
                for (int j = 0; j < arguments; j++) {
                    way.addCell(around[j]);
                }
            }
            tooLarge |= !way.endLiteral();
        }
    }

    /**
     * The clauses on the way: sets of clauses on a stack, each set a range of clauses that is
     * written behind all before it, so that the room that is used is what the limits count.
     */
    private static final class Way {
        private static final int MOST_CLAUSES = 600;
        private static final int MOST_MEMBERS = 6000;
        /** Each of at most 3000 cells may become a function with five arguments. */
        private static final int CELL_ROOM = 18_000;
        private static final int SET_ROOM = 400;

        private final int[] cells = new int[CELL_ROOM];
        private int cellTotal;
        private final int[] literalStart = new int[MOST_CLAUSES + 1];
        private final boolean[] negative = new boolean[MOST_CLAUSES];
        private int literals;
        private final int[] members = new int[MOST_MEMBERS];
        private final int[] clauseStart = new int[MOST_CLAUSES + 1];
        private int clauses;
        private final int[] setStart = new int[SET_ROOM];
        private final int[] setEnd = new int[SET_ROOM];
        private int sets;
        private int memberTotal;
        private final int[] kept = new int[Store.MOST_LITERALS];
        private final int[] seen = new int[Store.MOST_VARIABLES];
        private int seenTotal;

        void begin() {
            cellTotal = 0;
            literals = 0;
            clauses = 0;
            sets = 0;
            memberTotal = 0;
        }

        boolean beginLiteral(boolean negated) {
            if (literals >= MOST_CLAUSES) {
                return false;
            }
            negative[literals] = negated;
            return true;
        }

        void addCell(int cell) {
            if (cellTotal < CELL_ROOM) {
                cells[cellTotal] = cell;
                cellTotal++;
            }
        }

        /** The literal becomes a set of one clause. */
        boolean endLiteral() {
            literals++;
            literalStart[literals] = cellTotal;
            if (memberTotal >= MOST_MEMBERS) {
                return false;
            }
            int from = clauses;
            members[memberTotal] = literals - 1;
            memberTotal++;
            return endClause() && pushSet(from);
        }

        private boolean endClause() {
            if (clauses >= MOST_CLAUSES) {
                return false;
            }
            clauses++;
            clauseStart[clauses] = memberTotal;
            return true;
        }

        private boolean pushSet(int from) {
            if (sets >= SET_ROOM) {
                return false;
            }
            setStart[sets] = from;
            setEnd[sets] = clauses;
            sets++;
            return true;
        }

        private boolean copyMembers(int clause) {
            int from = clauseStart[clause];
            int size = clauseStart[clause + 1] - from;
            if (memberTotal + size > MOST_MEMBERS) {
                return false;
            }
            System.arraycopy(members, from, members, memberTotal, size);
            memberTotal += size;
            return true;
        }

        /** The two latest sets become one: A & B. */
        boolean both() {
            if (sets < 2) {
                return false;
            }
            sets -= 2;
            int from = clauses;
            for (int part = sets; part <= sets + 1; part++) {
                for (int i = setStart[part]; i < setEnd[part]; i++) {
                    if (!copyMembers(i) || !endClause()) {
                        return false;
                    }
                }
            }
            return pushSet(from);
        }

        /** The two latest sets become one: A | B. */
        boolean either() {
            if (sets < 2) {
                return false;
            }
            sets -= 2;
            int from = clauses;
            for (int i = setStart[sets]; i < setEnd[sets]; i++) {
                for (int j = setStart[sets + 1]; j < setEnd[sets + 1]; j++) {
                    if (!copyMembers(i) || !copyMembers(j) || !endClause()) {
                        return false;
                    }
                }
            }
            return pushSet(from);
        }

        /** The clauses of the only set left come into the store; false if they are too large. */
        boolean deliver(Store store) {
            if (sets != 1 || store.clauses + setEnd[0] - setStart[0] > Store.MOST_CLAUSES) {
                return false;
            }
            for (int i = setStart[0]; i < setEnd[0]; i++) {
                if (clauseStart[i + 1] - clauseStart[i] > Store.MOST_LITERALS) {
                    return false;
                }
            }
            for (int i = setStart[0]; i < setEnd[0]; i++) {
                int size = keep(i);
                if (size >= 0 && !deliverKept(store, size)) {
                    return false;
                }
            }
            return true;
        }

        /** Keeps each literal of a clause once: how many; -1 if the clause goes. */
        private int keep(int clause) {
            int size = 0;
            for (int i = clauseStart[clause]; i < clauseStart[clause + 1]; i++) {
                boolean fresh = true;
                for (int j = 0; j < size && fresh; j++) {
                    if (sameAtom(members[i], kept[j])) {
                        if (negative[members[i]] != negative[kept[j]]) {
                            return -1;
                        }
                        fresh = false;
                    }
                }
                if (fresh) {
                    kept[size] = members[i];
                    size++;
                }
            }
            return size;
        }

        private boolean sameAtom(int literal, int other) {
            int from = literalStart[literal];
            int otherFrom = literalStart[other];
            int size = literalStart[literal + 1] - from;
            if (size != literalStart[other + 1] - otherFrom) {
                return false;
            }
            for (int i = 0; i < size; i++) {
                if (cells[from + i] != cells[otherFrom + i]) {
                    return false;
                }
            }
            return true;
        }

        private boolean deliverKept(Store store, int size) {
            int c = store.clauses;
            int literal = store.first[c];
            int begin = store.position[literal];
            int at = begin;
            seenTotal = 0;
            for (int i = 0; i < size; i++) {
                for (int j = literalStart[kept[i]]; j < literalStart[kept[i] + 1]; j++) {
                    int cell = cells[j] >= 0 ? cells[j] : renumbered(cells[j]);
                    if (at - begin >= Store.MOST_CELLS || cells[j] < 0 && cell >= 0) {
                        return false;
                    }
                    store.cells[at] = cell;
                    at++;
                }
                store.negative[literal] = negative[kept[i]];
                store.owner[literal] = c;
                literal++;
                store.position[literal] = at;
            }
            store.variables[c] = seenTotal;
            store.first[c + 1] = literal;
            store.clauses++;
            return true;
        }

        /** A variable's cell as its clause numbers it; 0 if the clause has too many. */
        private int renumbered(int cell) {
            for (int i = 0; i < seenTotal; i++) {
                if (seen[i] == cell) {
                    return -1 - i;
                }
            }
            if (seenTotal >= Store.MOST_VARIABLES) {
                return 0;
            }
            seen[seenTotal] = cell;
            seenTotal++;
            return -seenTotal;
        }
    }

    /** The literals of the tableau, and what its variables are bound to. */
    private static final class Tableau {
        static final int MOST_LITERALS = 150;
        static final int MOST_VARIABLES = 200;
        /** From here on variables are never bound: a clause is written with these. */
        static final int FREE = MOST_VARIABLES + Store.MOST_VARIABLES;
        private static final int VARIABLE_ROOM = FREE + Store.MOST_VARIABLES;
        private static final int UNBOUND = -1;

        private final Store store;
        /** Which literal of the store it is, and the number of its clause's first variable. */
        final int[] source = new int[MOST_LITERALS];
        final int[] base = new int[MOST_LITERALS];
        /** The lowest literal of its path, and how many there are. */
        final int[] parent = new int[MOST_LITERALS];
        final int[] depth = new int[MOST_LITERALS];
        /** The goal behind it, once it is done. */
        final int[] next = new int[MOST_LITERALS];
        int literals;
        int variables;
        /** The cell and the base of the term that a variable is bound to. */
        final int[] boundCell = new int[VARIABLE_ROOM];
        final int[] boundBase = new int[VARIABLE_ROOM];
        private final int[] trail = new int[VARIABLE_ROOM];
        int bound;

        Tableau(Store store) {
            this.store = store;
            for (int i = 0; i < VARIABLE_ROOM; i++) {
                boundCell[i] = UNBOUND;
            }
        }

        void bind(int variable, int cell, int cellBase) {
            if (bound < VARIABLE_ROOM) {
                boundCell[variable] = cell;
                boundBase[variable] = cellBase;
                trail[bound] = variable;
                bound++;
            }
        }

        void unbind(int to) {
            while (bound > to && bound > 0) {
                bound--;
                boundCell[trail[bound]] = UNBOUND;
            }
        }

        boolean fits(int c) {
            int more = store.first[c + 1] - store.first[c];
            return literals + more <= MOST_LITERALS && variables + store.variables[c] <= MOST_VARIABLES;
        }

        /**
         * A clause that fits comes below a goal (or -1), all but its connected literal (or -1)
         * as goals: the first goal then.
         */
        int add(int c, int goal, int connected) {
            int behind = goal < 0 ? -1 : next[goal];
            int low = goal < 0 ? 0 : depth[goal] + 1;
            int from = store.first[c];
            for (int i = from; i < store.first[c + 1]; i++) {
                source[literals + i - from] = i;
                base[literals + i - from] = variables;
                parent[literals + i - from] = goal;
                depth[literals + i - from] = low;
            }
            int follower = behind;
            for (int i = store.first[c + 1] - 1; i >= from; i--) {
                if (i != connected) {
                    next[literals + i - from] = follower;
                    follower = literals + i - from;
                }
            }
            literals += store.first[c + 1] - from;
            variables += store.variables[c];
            return follower;
        }
    }

    /** Goes through terms from the left, a symbol before its arguments, with all that is bound. */
    private static final class Walk {
        /** A level for each variable that is gone through, and the lowest one. */
        private static final int ROOM = Tableau.VARIABLE_ROOM + 2;

        private final Store store;
        private final Tableau tableau;
        private final int[] at = new int[ROOM];
        private final int[] base = new int[ROOM];
        /** How many terms are still to be gone through at each level. */
        private final int[] terms = new int[ROOM];
        private int top;

        Walk(Store store, Tableau tableau) {
            this.store = store;
            this.tableau = tableau;
        }

        void begin(int cell, int cellBase, int howMany) {
            at[0] = cell;
            base[0] = cellBase;
            terms[0] = howMany;
            top = 0;
        }

        /** Stands at the next symbol or unbound variable then; false if there is none. */
        boolean more() {
            for (int i = 0; i < FAR; i++) {
                if (terms[top] <= 0) {
                    if (top == 0) {
                        return false;
                    }
                    top--;
                    continue;
                }
                int variable = base[top] - 1 - store.cells[at[top]];
                if (store.cells[at[top]] >= 0 || tableau.boundCell[variable] < 0) {
                    return true;
                }
                at[top]++;
                terms[top]--;
                if (top + 1 >= ROOM) {
                    return false;
                }
                top++;
                at[top] = tableau.boundCell[variable];
                base[top] = tableau.boundBase[variable];
                terms[top] = 1;
            }
            return false;
        }

        int cell() {
            return at[top];
        }

        int cellBase() {
            return base[top];
        }

        int symbol() {
            return store.cells[at[top]];
        }

        /** The variable at which it stands; -1 at a symbol. */
        int variable() {
            int cell = store.cells[at[top]];
            return cell < 0 ? base[top] - 1 - cell : -1;
        }

        /** Goes on to a symbol's arguments, or behind what has none. */
        void enter() {
            int cell = store.cells[at[top]];
            at[top]++;
            terms[top] += (cell < 0 ? 0 : cell & Store.ARITY_MASK) - 1;
        }

        /** Goes behind the whole term. */
        void skip() {
            int behind = terms[top] - 1;
            for (int i = 0; i < Store.MOST_CELLS && terms[top] > behind; i++) {
                enter();
            }
        }
    }

    /** Unifies literals, and compares them, and counts the looks. */
    private static final class Unifier {
        static final int NO = 0;
        static final int YES = 1;
        static final int FULL = 2;
        private static final int MOST_LOOKS = 4000;

        private final Store store;
        private final Tableau tableau;
        private final Walk left;
        private final Walk right;
        private final Walk inner;
        private int looks;

        Unifier(Store store, Tableau tableau, Walk left, Walk right, Walk inner) {
            this.store = store;
            this.tableau = tableau;
            this.left = left;
            this.right = right;
            this.inner = inner;
        }

        private void begin(int goal, int source, int base) {
            int cell = store.position[tableau.source[goal]];
            int arguments = store.cells[cell] & Store.ARITY_MASK;
            left.begin(cell + 1, tableau.base[goal], arguments);
            right.begin(store.position[source] + 1, base, arguments);
        }

        /** A goal with a literal of the store; what it binds is taken back by others. */
        int unify(int goal, int source, int base) {
            begin(goal, source, base);
            looks = 0;
            while (left.more() && right.more()) {
                looks++;
                if (looks > MOST_LOOKS) {
                    return FULL;
                }
                int one = left.variable();
                int other = right.variable();
                if (one < 0 && other < 0) {
                    if (left.symbol() != right.symbol()) {
                        return NO;
                    }
                    left.enter();
                    right.enter();
                    continue;
                }
                if (one != other) {
                    int stands = one >= 0 ? stands(one, right) : stands(other, left);
                    if (stands != NO) {
                        return stands == FULL ? FULL : NO;
                    }
                    bind(one, other);
                }
                left.skip();
                right.skip();
            }
            return YES;
        }

        private void bind(int one, int other) {
            if (one >= 0) {
                tableau.bind(one, right.cell(), right.cellBase());
            } else {
                tableau.bind(other, left.cell(), left.cellBase());
            }
        }

        /** Tells whether a variable stands in the term at which a walk stands. */
        private int stands(int variable, Walk walk) {
            inner.begin(walk.cell(), walk.cellBase(), 1);
            while (inner.more()) {
                looks++;
                if (looks > MOST_LOOKS) {
                    return FULL;
                }
                if (inner.variable() == variable) {
                    return YES;
                }
                inner.enter();
            }
            return NO;
        }

        /** Tells whether a goal is the same as a literal of its path. */
        int repeats(int goal) {
            looks = 0;
            int above = tableau.parent[goal];
            for (int i = 0; i < Tableau.MOST_LITERALS && above >= 0; i++) {
                if (store.alike(tableau.source[goal], tableau.source[above])) {
                    int answer = same(goal, above);
                    if (answer != NO) {
                        return answer;
                    }
                }
                above = tableau.parent[above];
            }
            return NO;
        }

        private int same(int goal, int above) {
            begin(goal, tableau.source[above], tableau.base[above]);
            while (left.more() && right.more()) {
                looks++;
                if (looks > MOST_LOOKS) {
                    return FULL;
                }
                int one = left.variable();
                if (one != right.variable() || one < 0 && left.symbol() != right.symbol()) {
                    return NO;
                }
                left.enter();
                right.enter();
            }
            return YES;
        }
    }

    /** THE SEARCH: a frame for the START and for each goal that is done, with what it tries now. */
    private static final class Search {
        private static final int START = 0;
        private static final int EXTENSION = 1;
        private static final int REDUCTION = 2;

        private static final int PROOF = 1;
        private static final int NO_PROOF = 0;
        private static final int NOT_SO_FAR = -5;
        private static final int SPENT = -6;
        private static final int FULL = -7;
        /** How a try ends that ends nothing else. */
        private static final int DONE = 2;
        private static final int FAILED = 3;

        private static final int ROOM = Tableau.MOST_LITERALS + 1;

        private final Store store;
        private final Tableau tableau;
        private final Unifier unifier;
        final int[] kind = new int[ROOM];
        private final int[] goal = new int[ROOM];
        /** START: the clause; EXTENSION: the literal of the store; REDUCTION: the one of the tableau. */
        private final int[] choice = new int[ROOM];
        private final int[] boundBefore = new int[ROOM];
        private final int[] literalsBefore = new int[ROOM];
        private final int[] variablesBefore = new int[ROOM];
        private int top;
        /** The first goal after the latest try that went well. */
        private int first;
        private int most;
        private boolean cut;
        int steps;
        int limit;
        int moves;

        Search(Store store, Tableau tableau, Unifier unifier) {
            this.store = store;
            this.tableau = tableau;
            this.unifier = unifier;
        }

        void forget() {
            steps = 0;
            limit = 0;
            moves = 0;
        }

        int run(int upTo, int mostSteps) {
            forget();
            most = mostSteps;
            for (limit = 1; limit <= upTo; limit++) {
                cut = false;
                int answer = runLimit();
                if (answer == PROOF) {
                    moves = top + 1;
                }
                if (answer != FAILED) {
                    return answer;
                }
                if (!cut) {
                    return NO_PROOF;
                }
            }
            limit = upTo;
            return NOT_SO_FAR;
        }

        private int runLimit() {
            tableau.unbind(0);
            tableau.literals = 0;
            tableau.variables = 0;
            top = -1;
            push(START, -1, -1);
            for (int i = 0; i < FAR && top >= 0; i++) {
                tableau.unbind(boundBefore[top]);
                tableau.literals = literalsBefore[top];
                tableau.variables = variablesBefore[top];
                int answer = advance();
                if (answer == FAILED) {
                    top--;
                    continue;
                }
                if (answer != DONE) {
                    return answer;
                }
                if (first < 0) {
                    return PROOF;
                }
                int repeats = unifier.repeats(first);
                if (repeats == Unifier.FULL || repeats == Unifier.NO && !push(REDUCTION, first, first)) {
                    return FULL;
                }
            }
            return FAILED;
        }

        private boolean push(int ofKind, int ofGoal, int from) {
            if (top + 1 >= ROOM) {
                return false;
            }
            top++;
            kind[top] = ofKind;
            goal[top] = ofGoal;
            choice[top] = from;
            boundBefore[top] = tableau.bound;
            literalsBefore[top] = tableau.literals;
            variablesBefore[top] = tableau.variables;
            return true;
        }

        /** The choices of the highest frame are tried, up to the first that goes well. */
        private int advance() {
            for (int i = 0; i < FAR && nextChoice(); i++) {
                if (steps >= most) {
                    return SPENT;
                }
                steps++;
                int answer = Unifier.YES;
                if (kind[top] == REDUCTION) {
                    int above = choice[top];
                    answer = unifier.unify(goal[top], tableau.source[above], tableau.base[above]);
                } else if (kind[top] == EXTENSION) {
                    answer = unifier.unify(goal[top], choice[top], tableau.variables);
                }
                if (answer == Unifier.YES) {
                    return grow();
                }
                if (answer == Unifier.FULL) {
                    return FULL;
                }
                tableau.unbind(boundBefore[top]);
            }
            return FAILED;
        }

        private boolean nextChoice() {
            if (kind[top] == START) {
                return nextStart();
            }
            if (kind[top] == REDUCTION) {
                if (nextAbove()) {
                    return true;
                }
                kind[top] = EXTENSION;
                choice[top] = -1;
            }
            if (tableau.depth[goal[top]] >= limit) {
                cut |= nextLiteral();
                return false;
            }
            return nextLiteral();
        }

        private boolean nextStart() {
            for (int c = choice[top] + 1; c < store.clauses; c++) {
                if (store.positive(c)) {
                    choice[top] = c;
                    return true;
                }
            }
            return false;
        }

        private boolean nextAbove() {
            int above = tableau.parent[choice[top]];
            for (int i = 0; i < Tableau.MOST_LITERALS && above >= 0; i++) {
                if (store.opposed(tableau.source[goal[top]], tableau.source[above])) {
                    choice[top] = above;
                    return true;
                }
                above = tableau.parent[above];
            }
            return false;
        }

        private boolean nextLiteral() {
            for (int i = choice[top] + 1; i < store.literals(); i++) {
                if (store.opposed(tableau.source[goal[top]], i)) {
                    choice[top] = i;
                    return true;
                }
            }
            return false;
        }

        /** The choice of the highest frame went well: what it gives comes into the tableau. */
        private int grow() {
            if (kind[top] == REDUCTION) {
                first = tableau.next[goal[top]];
                return DONE;
            }
            int c = rowOf(top);
            if (!tableau.fits(c)) {
                return FULL;
            }
            first = tableau.add(c, goal[top], kind[top] == START ? -1 : choice[top]);
            return DONE;
        }

        /** Of a move: its clause, what was connected, and how long its path is. */
        int rowOf(int k) {
            switch (kind[k]) {
                case START:
                    return choice[k];
                case EXTENSION:
                    return store.owner[choice[k]];
                default:
                    return -1;
            }
        }

        int connected(int k) {
            switch (kind[k]) {
                case START:
                    return -1;
                case EXTENSION:
                    return choice[k] - store.first[store.owner[choice[k]]];
                default:
                    return tableau.depth[choice[k]];
            }
        }

        int above(int k) {
            return kind[k] == START ? 0 : tableau.depth[goal[k]];
        }

        int goalSource(int k) {
            return kind[k] == START ? 0 : tableau.source[goal[k]];
        }

        int goalBase(int k) {
            return kind[k] == START ? 0 : tableau.base[goal[k]];
        }
    }

    /** Writes literals and clauses; what was written before stays until the new page is whole. */
    private static final class Page {
        private static final int ROOM = 4000;
        private static final int UNNUMBERED = -1;
        private static final int DIGITS = 10;

        private final Store store;
        private final Walk walk;
        byte[] written = new byte[ROOM];
        int length;
        private byte[] draft = new byte[ROOM];
        private int drafted;
        private boolean overfull;
        /** How many arguments are still to be written in each ( that is open. */
        private final int[] open = new int[ROOM];
        private int opened;
        private final int[] number = new int[Tableau.VARIABLE_ROOM];
        private int numbered;
        private final int[] digits = new int[DIGITS];

        Page(Store store, Walk walk) {
            this.store = store;
            this.walk = walk;
        }

        void begin() {
            drafted = 0;
            overfull = false;
            numbered = 0;
            for (int i = 0; i < number.length; i++) {
                number[i] = UNNUMBERED;
            }
        }

        int finish() {
            if (overfull) {
                return NO_ROOM;
            }
            byte[] before = written;
            written = draft;
            draft = before;
            length = drafted;
            return length;
        }

        void row(int c, int base) {
            int from = store.first[c];
            for (int i = from; i < store.first[c + 1]; i++) {
                if (i > from) {
                    put('|');
                }
                literal(i, base);
            }
            if (from == store.first[c + 1]) {
                put('$');
            }
        }

        void literal(int source, int base) {
            if (store.negative[source]) {
                put('~');
            }
            opened = 0;
            walk.begin(store.position[source], base, 1);
            // Each turn writes a sign, so there are never more turns than room.
            for (int i = 0; i <= ROOM && !overfull && walk.more(); i++) {
                int arguments = 0;
                if (walk.variable() >= 0) {
                    putVariable(walk.variable());
                } else {
                    putSymbol(walk.symbol() >> Store.ARITY_BITS);
                    arguments = walk.symbol() & Store.ARITY_MASK;
                }
                walk.enter();
                if (arguments > 0) {
                    openBracket(arguments);
                } else {
                    endTerm();
                }
            }
        }

        private void openBracket(int arguments) {
            put('(');
            if (opened < ROOM) {
                open[opened] = arguments;
                opened++;
            }
        }

        /** Behind a term: a comma if there is another argument, else all brackets that end here. */
        private void endTerm() {
            while (opened > 0) {
                open[opened - 1]--;
                if (open[opened - 1] > 0) {
                    put(',');
                    return;
                }
                put(')');
                opened--;
            }
        }

        private void putVariable(int variable) {
            if (number[variable] == UNNUMBERED) {
                number[variable] = numbered;
                numbered++;
            }
            put('X');
            putNumber(number[variable]);
        }

        private void putSymbol(int symbol) {
            if (symbol > Store.FIRST_FUNCTION) {
                put('s');
                putNumber(symbol - Store.FIRST_FUNCTION);
                return;
            }
            for (int shift = 8 * (Text.LONGEST - 1); shift >= 0; shift -= 8) {
                int sign = (int) (store.words[symbol] >> shift) & 0xFF;
                if (sign != 0) {
                    put(sign);
                }
            }
        }

        private void putNumber(int value) {
            int size = 0;
            int rest = value;
            do {
                digits[size] = rest % 10;
                rest /= 10;
                size++;
            } while (rest > 0 && size < DIGITS);
            for (int i = size - 1; i >= 0; i--) {
                put('0' + digits[i]);
            }
        }

        private void put(int sign) {
            if (drafted >= ROOM) {
                overfull = true;
                return;
            }
            draft[drafted] = (byte) sign;
            drafted++;
        }
    }
}
