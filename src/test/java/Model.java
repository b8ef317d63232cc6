import java.util.ArrayList;
import java.util.HashSet;
import java.util.List;
import java.util.Set;

/**
 * The document once more, written straight from its words with objects, lists and texts, so that the program
 * can be held against it. It shares no idea with the program: all tokens are cut first, an expression is read
 * by one level for each binding, and two nodes are equal if their written-out keys are.
 */
final class Model {
    private static final class Token {
        int kind;
        int blanks;
        int own;
        int end;
    }

    private static final class Fault {
        int place;
        int number;
    }

    private static final class Node {
        int kind;
        int begin;
        int end;
        int own;
        boolean missing;
        Node parent;
        int number;
        String key;
        final List<Node> children = new ArrayList<>();
        final List<Fault> faults = new ArrayList<>();
        final List<Integer> skips = new ArrayList<>();
    }

    private String text = "";
    private String buffer = "";
    private final List<String> stored = new ArrayList<>();
    private int version = 0;
    private int kept = 0;
    private List<Node> nodes;

    private List<Token> tokens;
    private int current;
    private final List<Token> skipped = new ArrayList<>();

    Model() {
        nodes = treeOf(text);
    }

    // The face.

    boolean type(char c) {
        if (buffer.length() == 20 || !(c == 10 || (32 <= c && c <= 126))) {
            return false;
        }
        buffer += c;
        return true;
    }

    boolean edit(int start, int removed) {
        String put = buffer;
        buffer = "";
        if (start < 0 || removed < 0 || (long) start + removed > text.length()) {
            return false;
        }
        String changed = text.substring(0, start) + put + text.substring(start + removed);
        if (changed.length() > 60) {
            return false;
        }
        List<Node> old = nodes;
        stored.add(text);
        if (stored.size() > 3) {
            stored.remove(0);
        }
        text = changed;
        nodes = treeOf(text);
        version++;
        kept = 0;
        for (Node node : nodes) {
            if (21 <= node.kind && node.kind <= 25 && keeps(node, old, start, removed, put.length())) {
                kept++;
            }
        }
        return true;
    }

    boolean undo() {
        if (stored.isEmpty()) {
            return false;
        }
        text = stored.remove(stored.size() - 1);
        nodes = treeOf(text);
        version--;
        return true;
    }

    int length() {
        return text.length();
    }

    int letter(int p) {
        return p < 0 || p >= text.length() ? 0 : text.charAt(p);
    }

    int node(int k, int what) {
        if (k < 0 || k >= nodes.size()) {
            return -1;
        }
        Node node = nodes.get(k);
        int[] answers = {
            node.kind, node.begin, node.end - node.begin, firstLeaf(node).own, node.children.size(),
            node.parent == null ? -1 : node.parent.number, node.missing ? 1 : 0, faultsIn(node).size(), all(node).size(),
        };
        return what < 0 || what >= answers.length ? -1 : answers[what];
    }

    int child(int k, int c) {
        if (k < 0 || k >= nodes.size() || c < 0 || c >= nodes.get(k).children.size()) {
            return -1;
        }
        return nodes.get(k).children.get(c).number;
    }

    int find(int p) {
        if (p == text.length()) {
            return nodes.size() - 1;
        }
        for (Node node : nodes) {
            if (node.kind < 20 && node.begin <= p && p < node.end) {
                return node.number;
            }
        }
        return -1;
    }

    boolean equal(int k, int j) {
        boolean exist = 0 <= k && k < nodes.size() && 0 <= j && j < nodes.size();
        return exist && nodes.get(k).key.equals(nodes.get(j).key);
    }

    int fault(int k) {
        List<Fault> faults = faultsIn(nodes.get(0));
        return k < 0 || k >= faults.size() ? -1 : 4 * faults.get(k).place + faults.get(k).number;
    }

    int count(int what) {
        int leaves = 0;
        Set<String> keys = new HashSet<>();
        for (Node node : nodes) {
            leaves += node.kind < 20 ? 1 : 0;
            keys.add(node.key);
        }
        int[] answers = {
            nodes.size(), leaves, faultsIn(nodes.get(0)).size(), keys.size(), version, stored.size(), kept, buffer.length(),
        };
        return what < 0 || what >= answers.length ? -1 : answers[what];
    }

    private static boolean keeps(Node node, List<Node> old, int start, int removed, int put) {
        for (Node other : old) {
            boolean before = other.begin == node.begin && other.end <= start;
            boolean behind = other.begin >= start + removed && node.begin == other.begin - removed + put;
            if (other.key.equals(node.key) && (before || behind)) {
                return true;
            }
        }
        return false;
    }

    private static Node firstLeaf(Node node) {
        return node.kind < 20 ? node : firstLeaf(node.children.get(0));
    }

    private static List<Node> all(Node node) {
        List<Node> found = new ArrayList<>();
        found.add(node);
        for (Node child : node.children) {
            found.addAll(all(child));
        }
        return found;
    }

    private static List<Fault> faultsIn(Node node) {
        List<Fault> found = new ArrayList<>(node.faults);
        for (Node child : node.children) {
            found.addAll(faultsIn(child));
        }
        return found;
    }

    // The tokens.

    private static List<Token> cut(String text) {
        List<Token> found = new ArrayList<>();
        int at = 0;
        while (true) {
            Token token = new Token();
            token.blanks = at;
            at = skipBlanks(text, at);
            token.own = at;
            if (at == text.length()) {
                token.kind = 17;
                token.end = at;
                found.add(token);
                return found;
            }
            String own = ownCharacters(text.substring(at));
            token.kind = kindOf(own);
            at += own.length();
            token.end = at;
            found.add(token);
        }
    }

    private static int skipBlanks(String text, int from) {
        int at = from;
        while (at < text.length()) {
            if (text.charAt(at) == '#') {
                int newline = text.indexOf('\n', at);
                at = newline < 0 ? text.length() : newline;
            } else if (text.charAt(at) == ' ' || text.charAt(at) == '\n') {
                at++;
            } else {
                return at;
            }
        }
        return at;
    }

    private static String ownCharacters(String rest) {
        String run = rest.replaceFirst("(?s)^([a-z]+|[0-9]+|.).*$", "$1");
        return run;
    }

    private static int kindOf(String own) {
        switch (own) {
            case "if": return 3;
            case "else": return 4;
            case "while": return 5;
            case ";": return 6;
            case "{": return 7;
            case "}": return 8;
            case "(": return 9;
            case ")": return 10;
            case "+": return 11;
            case "-": return 12;
            case "*": return 13;
            case "<": return 14;
            case "=": return 15;
            default: return own.matches("[a-z]+") ? 1 : own.matches("[0-9]+") ? 2 : 16;
        }
    }

    // The tree.

    private List<Node> treeOf(String source) {
        tokens = cut(source);
        current = 0;
        skipped.clear();
        Node program = inner(20, null);
        list(program, 0, false);
        program.children.add(take());
        finish(program, null, source);
        List<Node> numbered = all(program);
        for (int k = 0; k < numbered.size(); k++) {
            numbered.get(k).number = k;
        }
        return numbered;
    }

    private static void finish(Node node, Node parent, String source) {
        node.parent = parent;
        StringBuilder key = new StringBuilder().append(node.kind);
        if (node.kind < 20) {
            key.append('[').append(source, node.begin, node.end).append('|');
            for (int place : node.skips) {
                key.append(place - node.begin).append(',');
            }
            for (Fault fault : node.faults) {
                key.append('!').append(fault.number).append('@').append(fault.place - node.begin);
            }
            node.key = key.append(']').toString();
            return;
        }
        key.append('(');
        for (Node child : node.children) {
            finish(child, node, source);
            key.append(child.key).append(' ');
        }
        node.key = key.append(')').toString();
        node.begin = node.children.get(0).begin;
        node.end = node.children.get(node.children.size() - 1).end;
    }

    private int kind() {
        return tokens.get(current).kind;
    }

    private static Node inner(int kind, Node first) {
        Node node = new Node();
        node.kind = kind;
        if (first != null) {
            node.children.add(first);
        }
        return node;
    }

    private static Fault faultAt(int place, int number) {
        Fault fault = new Fault();
        fault.place = place;
        fault.number = number;
        return fault;
    }

    private int blanksBegin() {
        return skipped.isEmpty() ? tokens.get(current).blanks : skipped.get(0).blanks;
    }

    private Node take() {
        Token token = tokens.get(current);
        Node leaf = inner(token.kind, null);
        leaf.begin = blanksBegin();
        leaf.own = token.own;
        leaf.end = token.end;
        for (Token skip : skipped) {
            leaf.skips.add(skip.own);
            leaf.faults.add(faultAt(skip.own, canBegin(skip.kind) ? 3 : 1));
        }
        skipped.clear();
        current++;
        return leaf;
    }

    private Node missing(int kind, int number) {
        Node leaf = inner(kind, null);
        leaf.missing = true;
        leaf.begin = blanksBegin();
        leaf.own = leaf.begin;
        leaf.end = leaf.begin;
        leaf.faults.add(faultAt(leaf.begin, number));
        return leaf;
    }

    private Node expected(int kind) {
        return kind() == kind ? take() : missing(kind, 2);
    }

    private static boolean canBegin(int kind) {
        return List.of(1, 2, 3, 5, 6, 7, 9, 12).contains(kind);
    }

    private boolean statementAllowed(int depth) {
        boolean nests = kind() == 3 || kind() == 5 || kind() == 7;
        return canBegin(kind()) && !(depth == 6 && nests);
    }

    private void list(Node parent, int depth, boolean inBlock) {
        while (kind() != 17 && !(inBlock && kind() == 8)) {
            if (statementAllowed(depth)) {
                parent.children.add(statement(depth));
            } else {
                skipped.add(tokens.get(current));
                current++;
            }
        }
    }

    private Node statement(int depth) {
        if (kind() == 6) {
            return inner(25, take());
        }
        if (kind() == 7) {
            Node block = inner(21, take());
            list(block, depth + 1, true);
            block.children.add(expected(8));
            return block;
        }
        if (kind() == 3 || kind() == 5) {
            boolean isIf = kind() == 3;
            Node node = inner(isIf ? 22 : 23, take());
            node.children.add(expected(9));
            node.children.add(assignment(0));
            node.children.add(expected(10));
            node.children.add(part(depth + 1));
            if (isIf && kind() == 4) {
                node.children.add(take());
                node.children.add(part(depth + 1));
            }
            return node;
        }
        Node simple = inner(24, assignment(0));
        simple.children.add(expected(6));
        return simple;
    }

    private Node part(int depth) {
        return statementAllowed(depth) ? statement(depth) : inner(25, missing(6, canBegin(kind()) ? 3 : 2));
    }

    private Node assignment(int p) {
        Node left = comparison(p);
        if (kind() != 15) {
            return left;
        }
        Node node = inner(26, left);
        node.children.add(take());
        node.children.add(assignment(p));
        return node;
    }

    private Node comparison(int p) {
        Node left = sum(p);
        while (kind() == 14) {
            left = inner(26, left);
            left.children.add(take());
            left.children.add(sum(p));
        }
        return left;
    }

    private Node sum(int p) {
        Node left = product(p);
        while (kind() == 11 || kind() == 12) {
            left = inner(26, left);
            left.children.add(take());
            left.children.add(product(p));
        }
        return left;
    }

    private Node product(int p) {
        Node left = operand(p);
        while (kind() == 13) {
            left = inner(26, left);
            left.children.add(take());
            left.children.add(operand(p));
        }
        return left;
    }

    private Node operand(int p) {
        if (kind() == 1 || kind() == 2) {
            return take();
        }
        if (kind() == 9 && p != 6) {
            Node node = inner(28, take());
            node.children.add(assignment(p + 1));
            node.children.add(expected(10));
            return node;
        }
        if (kind() == 12 && p != 6) {
            Node node = inner(27, take());
            node.children.add(operand(p + 1));
            return node;
        }
        return missing(1, kind() == 9 || kind() == 12 ? 3 : 2);
    }
}
