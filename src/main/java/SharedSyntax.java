/** The syntax tree of a short program that is being edited. README.md tells how to use it. */
public final class SharedSyntax {
    public static final int NONE = -1;

    private static final int TEXT_MOST = 60;
    private static final int BUFFER_MOST = 20;
    private static final int STORED_MOST = 3;
    private static final int DEPTH_MOST = 6;
    private static final int TOKENS_MOST = TEXT_MOST + 1;

    // Every node but PROGRAM and END can be charged to a character: the dearest one is a ( that begins a
    // statement, with the leaf, 28, 24 and three missing leaves.
    private static final int NODES_MOST = 6 * TEXT_MOST + 2;
    // Charged in the same way: of what a ( brings, three have a fault; a skipped token has one.
    private static final int FAULTS_MOST = 3 * TEXT_MOST;

    private static final int NAME = 1;
    private static final int NUMBER = 2;
    private static final int IF_WORD = 3;
    private static final int ELSE_WORD = 4;
    private static final int WHILE_WORD = 5;
    private static final int SEMICOLON = 6;
    private static final int LEFT_BRACE = 7;
    private static final int RIGHT_BRACE = 8;
    private static final int LEFT_PAREN = 9;
    private static final int RIGHT_PAREN = 10;
    private static final int PLUS = 11;
    private static final int MINUS = 12;
    private static final int TIMES = 13;
    private static final int LESS = 14;
    private static final int ASSIGN = 15;
    private static final int OTHER = 16;
    private static final int END = 17;

    // The tokens of one character, in the order of their kinds from SEMICOLON to ASSIGN.
    private static final String SIGNS = ";{}()+-*<=";

    private static final int PROGRAM = 20;
    private static final int BLOCK = 21;
    private static final int IF = 22;
    private static final int WHILE = 23;
    private static final int SIMPLE = 24;
    private static final int EMPTY = 25;
    private static final int BINARY = 26;
    private static final int NEGATIVE = 27;
    private static final int PARENTHESES = 28;

    private static final int FAULT_SKIPPED = 1;
    private static final int FAULT_MISSING = 2;
    private static final int FAULT_TOO_DEEP = 3;

    private final Letters buffer;
    private final History history;
    private Reading current;
    // The tree of the text before is needed until the kept statements are counted, so two take turns.
    private Reading spare;
    private int version;
    private int kept;

    public SharedSyntax() {
        Reading first = new Reading(new Letters(TEXT_MOST));
        first.read();
        current = first;
        spare = new Reading(new Letters(TEXT_MOST));
        buffer = new Letters(BUFFER_MOST);
        history = new History();
        version = 0;
        kept = 0;
    }

    public boolean type(char c) {
        boolean allowed = c == '\n' || (c >= 32 && c <= 126);
        return allowed && buffer.append(c);
    }

    public boolean edit(int start, int removed) {
        boolean possible = fits(start, removed);
        if (possible) {
            history.store(current.text);
            spare.text.splice(current.text, start, removed, buffer);
            spare.read();
            takeTurns();
            kept = keptCount(start, removed);
            version++;
        }
        buffer.clear();
        return possible;
    }

    public boolean undo() {
        if (!history.takeLast(current.text)) {
            return false;
        }
        current.read();
        version--;
        return true;
    }

    public int length() {
        return current.text.size;
    }

    public int letter(int p) {
        return current.text.at(p);
    }

    public int node(int k, int what) {
        Tree tree = current.tree;
        if (!tree.has(k)) {
            return NONE;
        }
        switch (what) {
            case 0: return tree.kinds[k];
            case 1: return tree.begins[k];
            case 2: return tree.stretchOf(k);
            case 3: return tree.ownPlaceOf(k);
            case 4: return tree.childrenOf(k);
            case 5: return tree.parentOf(k);
            case 6: return tree.isMissing(k) ? 1 : 0;
            case 7: return tree.faultsIn(k);
            case 8: return tree.sizes[k];
            default: return NONE;
        }
    }

    public int child(int k, int c) {
        return current.tree.has(k) ? current.tree.childOf(k, c) : NONE;
    }

    public int find(int p) {
        return current.tree.leafAt(p);
    }

    public boolean equal(int k, int j) {
        Tree tree = current.tree;
        return tree.has(k) && tree.has(j) && tree.matches(k, tree, j);
    }

    public int fault(int k) {
        Tree tree = current.tree;
        return k >= 0 && k < tree.faultCount ? tree.faults[k] : NONE;
    }

    public int count(int what) {
        switch (what) {
            case 0: return current.tree.used;
            case 1: return current.tree.leafCount();
            case 2: return current.tree.faultCount;
            case 3: return current.tree.differentCount();
            case 4: return version;
            case 5: return history.stored;
            case 6: return kept;
            case 7: return buffer.size;
            default: return NONE;
        }
    }

    private boolean fits(int start, int removed) {
        int size = current.text.size;
        // start + removed could wrap around; size - start cannot.
        if (start < 0 || removed < 0 || removed > size - start) {
            return false;
        }
        return size - removed + buffer.size <= TEXT_MOST;
    }

    private void takeTurns() {
        Reading old = current;
        current = spare;
        spare = old;
    }

    private int keptCount(int start, int removed) {
        int many = 0;
        for (int k = 0; k < current.tree.used; k++) {
            if (current.tree.isStatement(k) && isKept(k, start, removed)) {
                many++;
            }
        }
        return many;
    }

    private boolean isKept(int k, int start, int removed) {
        Tree old = spare.tree;
        int begin = current.tree.begins[k];
        for (int j = 0; j < old.used; j++) {
            int place = old.begins[j];
            boolean before = place == begin && place + old.stretchOf(j) <= start;
            boolean behind = place >= start + removed && begin == place - removed + buffer.size;
            if ((before || behind) && current.tree.matches(k, old, j)) {
                return true;
            }
        }
        return false;
    }

    /** A row of characters that has a bound. */
    private static final class Letters {
        private final int[] row;
        private int size;

        Letters(int most) {
            row = new int[most];
            size = 0;
        }

        int at(int p) {
            return p >= 0 && p < size ? row[p] : 0;
        }

        boolean append(int c) {
            if (size >= row.length) {
                return false;
            }
            row[size] = c;
            size++;
            return true;
        }

        void clear() {
            size = 0;
        }

        void copy(Letters from) {
            clear();
            appendPart(from, 0, from.size);
        }

        void splice(Letters from, int start, int removed, Letters put) {
            clear();
            appendPart(from, 0, start);
            appendPart(put, 0, put.size);
            appendPart(from, start + removed, from.size);
        }

        private void appendPart(Letters from, int start, int end) {
            for (int p = start; p < end; p++) {
                append(from.at(p));
            }
        }
    }

    /** The texts that can be gone back to, the oldest first. */
    private static final class History {
        private final Letters[] texts;
        private int stored;

        History() {
            texts = new Letters[STORED_MOST];
            for (int i = 0; i < STORED_MOST; i++) {
                texts[i] = new Letters(TEXT_MOST);
            }
            stored = 0;
        }

        void store(Letters text) {
            if (stored >= STORED_MOST) {
                giveUpFirst();
            }
            texts[stored].copy(text);
            stored++;
        }

        boolean takeLast(Letters into) {
            if (stored <= 0) {
                return false;
            }
            stored--;
            into.copy(texts[stored]);
            return true;
        }

        private void giveUpFirst() {
            Letters first = texts[0];
            for (int i = 1; i < STORED_MOST; i++) {
                texts[i - 1] = texts[i];
            }
            texts[STORED_MOST - 1] = first;
            stored = STORED_MOST - 1;
        }
    }

    /** The tokens of a text, cut all at once; the last one is the END, which stays the current one. */
    private static final class Tokens {
        private final Letters text;
        private final int[] kinds;
        private final int[] owns;
        private final int[] ends;
        private int used;
        private int at;

        Tokens(Letters text) {
            this.text = text;
            kinds = new int[TOKENS_MOST];
            owns = new int[TOKENS_MOST];
            ends = new int[TOKENS_MOST];
            used = 0;
            at = 0;
        }

        int kind() {
            return at < used ? kinds[at] : END;
        }

        int own() {
            return at < used ? owns[at] : text.size;
        }

        int end() {
            return at < used ? ends[at] : text.size;
        }

        void advance() {
            if (at < used - 1) {
                at++;
            }
        }

        void cut() {
            used = 0;
            at = 0;
            int kind = NONE;
            int end = 0;
            while (used < TOKENS_MOST && kind != END) {
                int own = behindBlanks(end);
                end = behindOwn(own);
                kind = kindOf(own, end);
                kinds[used] = kind;
                owns[used] = own;
                ends[used] = end;
                used++;
            }
        }

        private int behindBlanks(int from) {
            boolean comment = false;
            int p = from;
            for (; p < text.size; p++) {
                int c = text.at(p);
                if (c == '\n') {
                    comment = false;
                } else if (c == '#') {
                    comment = true;
                } else if (c != ' ' && !comment) {
                    break;
                }
            }
            return p;
        }

        private int behindOwn(int own) {
            int c = text.at(own);
            int p = own;
            if (isSmallLetter(c)) {
                while (p < text.size && isSmallLetter(text.at(p))) {
                    p++;
                }
            } else if (isDigit(c)) {
                while (p < text.size && isDigit(text.at(p))) {
                    p++;
                }
            } else if (p < text.size) {
                p++;
            }
            return p;
        }

        private int kindOf(int own, int end) {
            if (own >= end) {
                return END;
            }
            int c = text.at(own);
            if (isSmallLetter(c)) {
                return wordKind(own, end);
            }
            return isDigit(c) ? NUMBER : signKind(c);
        }

        private int wordKind(int own, int end) {
            if (spells(own, end, "if")) {
                return IF_WORD;
            }
            if (spells(own, end, "else")) {
                return ELSE_WORD;
            }
            return spells(own, end, "while") ? WHILE_WORD : NAME;
        }

        private boolean spells(int own, int end, String word) {
            if (end - own != word.length()) {
                return false;
            }
            for (int i = 0; i < word.length(); i++) {
                if (text.at(own + i) != word.charAt(i)) {
                    return false;
                }
            }
            return true;
        }

        private static int signKind(int c) {
            int at = SIGNS.indexOf((char) c);
            return at < 0 ? OTHER : SEMICOLON + at;
        }

        private static boolean isSmallLetter(int c) {
            return c >= 'a' && c <= 'z';
        }

        private static boolean isDigit(int c) {
            return c >= '0' && c <= '9';
        }
    }

    /**
     * The nodes in the order of their numbers. A node's stretch, and its faults, end where those of the
     * first node behind all below it begin, so that one row of beginnings, with one more at its end, holds both.
     */
    private static final class Tree {
        private final Letters text;
        private final int[] kinds;
        private final int[] sizes;
        private final int[] begins;
        private final int[] owns;
        private final int[] faultsBefore;
        private final int[] faults;
        private int used;
        private int faultCount;

        Tree(Letters text) {
            this.text = text;
            kinds = new int[NODES_MOST + 1];
            sizes = new int[NODES_MOST + 1];
            begins = new int[NODES_MOST + 1];
            owns = new int[NODES_MOST + 1];
            faultsBefore = new int[NODES_MOST + 1];
            faults = new int[FAULTS_MOST];
            used = 0;
            faultCount = 0;
        }

        void clear() {
            used = 0;
            faultCount = 0;
        }

        int add(int kind, int begin, int own) {
            if (used >= NODES_MOST) {
                return NODES_MOST - 1;
            }
            kinds[used] = kind;
            sizes[used] = 1;
            begins[used] = begin;
            owns[used] = own;
            faultsBefore[used] = faultCount;
            used++;
            return used - 1;
        }

        void addFault(int place, int number) {
            if (faultCount < FAULTS_MOST) {
                faults[faultCount] = 4 * place + number;
                faultCount++;
            }
        }

        /** What lies from node k on gets a parent, which takes the number k. */
        void wrap(int k, int kind) {
            if (!has(k) || used >= NODES_MOST) {
                return;
            }
            shift(kinds, k);
            shift(sizes, k);
            shift(begins, k);
            shift(owns, k);
            shift(faultsBefore, k);
            used++;
            kinds[k] = kind;
        }

        private void shift(int[] row, int from) {
            System.arraycopy(row, from, row, from + 1, used - from);
        }

        /** All nodes that came behind node k are below it. */
        void close(int k) {
            if (has(k)) {
                sizes[k] = used - k;
            }
        }

        void finish() {
            begins[used] = text.size;
            faultsBefore[used] = faultCount;
        }

        boolean has(int k) {
            return k >= 0 && k < used;
        }

        boolean isLeaf(int k) {
            return kinds[k] < PROGRAM;
        }

        boolean isStatement(int k) {
            return kinds[k] >= BLOCK && kinds[k] <= EMPTY;
        }

        boolean isMissing(int k) {
            return isLeaf(k) && kinds[k] != END && stretchOf(k) == 0;
        }

        int stretchOf(int k) {
            return begins[k + sizes[k]] - begins[k];
        }

        int faultsIn(int k) {
            return faultsBefore[k + sizes[k]] - faultsBefore[k];
        }

        int ownPlaceOf(int k) {
            int leaf = k;
            while (leaf < used - 1 && !isLeaf(leaf)) {
                leaf++;
            }
            return owns[leaf];
        }

        int childrenOf(int k) {
            int end = k + sizes[k];
            int at = k + 1;
            int many = 0;
            while (at < end && many < used) {
                at += sizes[at];
                many++;
            }
            return many;
        }

        int childOf(int k, int c) {
            if (c < 0 || c >= used) {
                return NONE;
            }
            int end = k + sizes[k];
            int at = k + 1;
            for (int i = 0; i < c && at < end; i++) {
                at += sizes[at];
            }
            return at < end ? at : NONE;
        }

        int parentOf(int k) {
            for (int above = k - 1; above >= 0; above--) {
                if (above + sizes[above] > k) {
                    return above;
                }
            }
            return NONE;
        }

        int leafAt(int p) {
            if (p < 0 || p > text.size) {
                return NONE;
            }
            for (int k = 0; k < used; k++) {
                if (isLeaf(k) && p < begins[k + 1]) {
                    return k;
                }
            }
            return used - 1;
        }

        int leafCount() {
            int many = 0;
            for (int k = 0; k < used; k++) {
                if (isLeaf(k)) {
                    many++;
                }
            }
            return many;
        }

        int differentCount() {
            int many = 0;
            for (int k = 0; k < used; k++) {
                if (isFirstOfItsLike(k)) {
                    many++;
                }
            }
            return many;
        }

        private boolean isFirstOfItsLike(int k) {
            for (int j = 0; j < k; j++) {
                if (matches(k, this, j)) {
                    return false;
                }
            }
            return true;
        }

        /** Whether node k is equal to node j of the other tree; both exist. */
        boolean matches(int k, Tree other, int j) {
            if (!sameNode(k, other, j)) {
                return false;
            }
            for (int i = 1; i < sizes[k]; i++) {
                if (!sameNode(k + i, other, j + i)) {
                    return false;
                }
            }
            return sameLetters(k, other, j) && sameFaults(k, other, j);
        }

        // With the same sizes one by one the two have the same shape, and with the same stretches and numbers
        // of faults each letter and each fault lies in the same leaf.
        private boolean sameNode(int k, Tree other, int j) {
            return kinds[k] == other.kinds[j] && sizes[k] == other.sizes[j]
                && stretchOf(k) == other.stretchOf(j) && faultsIn(k) == other.faultsIn(j);
        }

        private boolean sameLetters(int k, Tree other, int j) {
            int many = stretchOf(k);
            for (int i = 0; i < many; i++) {
                if (text.at(begins[k] + i) != other.text.at(other.begins[j] + i)) {
                    return false;
                }
            }
            return true;
        }

        // A skipped token has its fault where it begins, so that this compares their places too.
        private boolean sameFaults(int k, Tree other, int j) {
            int many = faultsIn(k);
            int apart = 4 * (begins[k] - other.begins[j]);
            for (int i = 0; i < many; i++) {
                int mine = faults[faultsBefore[k] + i];
                int theirs = other.faults[other.faultsBefore[j] + i];
                if (mine - theirs != apart) {
                    return false;
                }
            }
            return true;
        }
    }

    /** A text with its tree, which is made anew by read. */
    private static final class Reading {
        private final Letters text;
        private final Tree tree;
        private final Tokens tokens;
        // Where the blanks before the token that is taken next begin.
        private int place;
        // Faults of skipped tokens wait for the leaf whose blanks get them: a missing leaf may come before it.
        private final int[] skippedPlaces;
        private final int[] skippedFaults;
        private int skipped;
        // The signs whose right operands are still being read, those of the outer expressions first.
        private final int[] openNodes;
        private final int[] openBindings;
        private int open;

        Reading(Letters text) {
            this.text = text;
            tree = new Tree(text);
            tokens = new Tokens(text);
            skippedPlaces = new int[TEXT_MOST];
            skippedFaults = new int[TEXT_MOST];
            openNodes = new int[TEXT_MOST];
            openBindings = new int[TEXT_MOST];
            place = 0;
            skipped = 0;
            open = 0;
        }

        void read() {
            tree.clear();
            tokens.cut();
            place = 0;
            skipped = 0;
            open = 0;
            int program = begin(PROGRAM);
            list(0);
            take();
            tree.close(program);
            tree.finish();
        }

        private int begin(int kind) {
            return tree.add(kind, place, place);
        }

        private void take() {
            tree.add(tokens.kind(), place, tokens.own());
            for (int i = 0; i < skipped; i++) {
                tree.addFault(skippedPlaces[i], skippedFaults[i]);
            }
            skipped = 0;
            place = tokens.end();
            tokens.advance();
        }

        private void skip() {
            if (skipped < TEXT_MOST) {
                skippedPlaces[skipped] = tokens.own();
                skippedFaults[skipped] = canBegin(tokens.kind()) ? FAULT_TOO_DEEP : FAULT_SKIPPED;
                skipped++;
            }
            tokens.advance();
        }

        private void miss(int kind, int fault) {
            tree.add(kind, place, place);
            tree.addFault(place, fault);
        }

        private void expect(int kind) {
            if (tokens.kind() == kind) {
                take();
            } else {
                miss(kind, FAULT_MISSING);
            }
        }

        private void list(int depth) {
            for (int i = 0; i < TEXT_MOST && !listEnds(depth); i++) {
                if (statementFollows(depth)) {
                    statement(depth);
                } else {
                    skip();
                }
            }
        }

        private boolean listEnds(int depth) {
            boolean inBlock = depth > 0;
            return tokens.kind() == END || (inBlock && tokens.kind() == RIGHT_BRACE);
        }

        private boolean statementFollows(int depth) {
            int kind = tokens.kind();
            boolean nests = kind == IF_WORD || kind == WHILE_WORD || kind == LEFT_BRACE;
            return canBegin(kind) && !(nests && depth >= DEPTH_MOST);
        }

        private static boolean canBegin(int kind) {
            switch (kind) {
                case NAME:
                case NUMBER:
                case IF_WORD:
                case WHILE_WORD:
                case SEMICOLON:
                case LEFT_BRACE:
                case LEFT_PAREN:
                case MINUS:
                    return true;
                default:
                    return false;
            }
        }

        private void statement(int depth) {
            switch (tokens.kind()) {
                case SEMICOLON:
                    emptyStatement();
                    break;
                case LEFT_BRACE:
                    block(depth);
                    break;
                case IF_WORD:
                    ifStatement(depth);
                    break;
                case WHILE_WORD:
                    whileStatement(depth);
                    break;
                default:
                    simpleStatement();
                    break;
            }
        }

        private void emptyStatement() {
            int node = begin(EMPTY);
            take();
            tree.close(node);
        }

        private void block(int depth) {
            int node = begin(BLOCK);
            take();
            list(depth + 1);
            expect(RIGHT_BRACE);
            tree.close(node);
        }

        private void ifStatement(int depth) {
            int node = begin(IF);
            take();
            condition();
            part(depth + 1);
            if (tokens.kind() == ELSE_WORD) {
                take();
                part(depth + 1);
            }
            tree.close(node);
        }

        private void whileStatement(int depth) {
            int node = begin(WHILE);
            take();
            condition();
            part(depth + 1);
            tree.close(node);
        }

        private void simpleStatement() {
            int node = begin(SIMPLE);
            expression(0);
            expect(SEMICOLON);
            tree.close(node);
        }

        private void condition() {
            expect(LEFT_PAREN);
            expression(0);
            expect(RIGHT_PAREN);
        }

        private void part(int depth) {
            if (statementFollows(depth)) {
                statement(depth);
                return;
            }
            int node = begin(EMPTY);
            miss(SEMICOLON, canBegin(tokens.kind()) ? FAULT_TOO_DEEP : FAULT_MISSING);
            tree.close(node);
        }

        private void expression(int nesting) {
            int outer = open;
            int left = tree.used;
            operand(nesting);
            for (int i = 0; i < TEXT_MOST && bindingOf(tokens.kind()) > 0; i++) {
                int binding = bindingOf(tokens.kind());
                // = binds from the right: one before it stays open.
                int closing = tokens.kind() == ASSIGN ? binding + 1 : binding;
                left = closeSigns(outer, closing, left);
                tree.wrap(left, BINARY);
                openSign(left, binding);
                take();
                left = tree.used;
                operand(nesting);
            }
            closeSigns(outer, 0, left);
        }

        /** Closes the signs of this expression that bind at least so much; answers where the operand begins now. */
        private int closeSigns(int outer, int binding, int operand) {
            int left = operand;
            while (open > outer && open > 0 && openBindings[open - 1] >= binding) {
                open--;
                left = openNodes[open];
                tree.close(left);
            }
            return left;
        }

        private void openSign(int node, int binding) {
            if (open < TEXT_MOST) {
                openNodes[open] = node;
                openBindings[open] = binding;
                open++;
            }
        }

        private static int bindingOf(int kind) {
            switch (kind) {
                case ASSIGN: return 1;
                case LESS: return 2;
                case PLUS: return 3;
                case MINUS: return 3;
                case TIMES: return 4;
                default: return 0;
            }
        }

        private void operand(int nesting) {
            int kind = tokens.kind();
            boolean nests = kind == LEFT_PAREN || kind == MINUS;
            if (kind == NAME || kind == NUMBER) {
                take();
            } else if (!nests) {
                miss(NAME, FAULT_MISSING);
            } else if (nesting >= DEPTH_MOST) {
                miss(NAME, FAULT_TOO_DEEP);
            } else if (kind == LEFT_PAREN) {
                parentheses(nesting);
            } else {
                negative(nesting);
            }
        }

        private void parentheses(int nesting) {
            int node = begin(PARENTHESES);
            take();
            expression(nesting + 1);
            expect(RIGHT_PAREN);
            tree.close(node);
        }

        private void negative(int nesting) {
            int node = begin(NEGATIVE);
            take();
            operand(nesting + 1);
            tree.close(node);
        }
    }
}
