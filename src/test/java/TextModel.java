import java.util.ArrayList;
import java.util.HashMap;
import java.util.HashSet;
import java.util.LinkedHashSet;
import java.util.List;
import java.util.Map;
import java.util.Set;
import java.util.regex.Matcher;
import java.util.regex.Pattern;

/**
 * What the document says of texts, told a second time and in another way: an Earley
 * recogniser over the grammar as it stands there, trees, and exceptions for breaks.
 */
final class TextModel {
    static final class Token {
        final String kind;
        final String text;
        final int place;

        Token(String kind, String text, int place) {
            this.kind = kind;
            this.text = text;
            this.place = place;
        }
    }

    static final class Node {
        final String kind;
        final Token token;
        final List<Node> parts = new ArrayList<>();
        final List<Node> deeds = new ArrayList<>();
        final List<Node> others = new ArrayList<>();
        String name;

        Node(String kind, Token token) {
            this.kind = kind;
            this.token = token;
        }
    }

    static final class Told {
        String name;
        Token nameToken;
        final List<Token> parameters = new ArrayList<>();
        final List<Node> deeds = new ArrayList<>();
    }

    static final Set<String> WORDS = Set.of("pattern", "end", "drop", "line", "comb", "wave", "for", "to", "if",
            "else", "do", "x", "y", "or", "and");
    private static final Pattern PIECE =
            Pattern.compile("[a-z][a-z0-9]*|[0-9]+|==|!=|<=|[;,+\\-*/%=<()]");
    private static final String[] GRAMMAR = {
        "text : patterns", "patterns :", "patterns : pattern1 patterns",
        "pattern1 : pattern NAME params deeds end", "params :", "params : ( NAME )", "params : ( NAME , NAME )",
        "deeds :", "deeds : deed deeds",
        "deed : drop E , E , E , E ;", "deed : line axis E , E , E ;", "deed : comb axis E , E , E , E , E ;",
        "deed : wave axis E , E ;", "deed : for NAME = E to E deeds end", "deed : if cond deeds else1 end",
        "else1 :", "else1 : else deeds", "deed : do NAME args ;", "args :", "args : ( E )", "args : ( E , E )",
        "axis : x", "axis : y", "cond : all", "cond : cond or all", "all : rel", "all : all and rel",
        "rel : E rop E", "rop : ==", "rop : !=", "rop : <", "rop : <=",
        "E : part", "E : E + part", "E : E - part", "part : unit", "part : part * unit", "part : part / unit",
        "part : part % unit", "unit : INT", "unit : NAME", "unit : - unit", "unit : ( E )"};
    private static final Map<String, List<String[]>> RULES = new HashMap<>();

    static {
        for (String rule : GRAMMAR) {
            int at = rule.indexOf(" :");
            String right = rule.substring(at + 2).trim();
            RULES.computeIfAbsent(rule.substring(0, at), k -> new ArrayList<>())
                    .add(right.isEmpty() ? new String[0] : right.split(" "));
        }
    }

    int fault;
    int place = -1;
    List<Told> patterns = new ArrayList<>();

    static List<Token> tokens(String text) {
        List<Token> list = new ArrayList<>();
        int at = 0;
        while (at < text.length()) {
            char c = text.charAt(at);
            if (c == 9 || c == 10 || c == 13 || c == 32) {
                at++;
                continue;
            }
            Matcher matcher = PIECE.matcher(text);
            matcher.region(at, text.length());
            if (!matcher.lookingAt()) {
                list.add(new Token("BAD", "", at));
                return list;
            }
            String piece = matcher.group();
            String kind = piece;
            if (Character.isDigit(c)) {
                kind = piece.length() > 4 ? "BAD" : "INT";
            } else if (Character.isLetter(c)) {
                kind = piece.length() > 8 ? "BAD" : WORDS.contains(piece) ? piece : "NAME";
            }
            list.add(new Token(kind, piece, at));
            if (kind.equals("BAD")) {
                return list;
            }
            at += piece.length();
        }
        return list;
    }

    private record Item(String left, String[] right, int dot, int from) {
        String next() {
            return dot < right.length ? right[dot] : null;
        }

        String key() {
            return left + System.identityHashCode(right) + "." + dot + "@" + from;
        }
    }

    private static final class Column {
        final List<Item> items = new ArrayList<>();
        private final Set<String> keys = new HashSet<>();

        void add(Item item) {
            if (keys.add(item.key())) {
                items.add(item);
            }
        }
    }

    /** How many tokens are taken ahead of the fault: size + 1 if there is none. */
    private static int earley(List<Token> tokens) {
        List<Column> columns = new ArrayList<>();
        Column first = new Column();
        first.add(new Item("START", new String[] {"text"}, 0, 0));
        columns.add(first);
        for (int i = 0;; i++) {
            Column column = columns.get(i);
            Column following = new Column();
            String kind = i < tokens.size() ? tokens.get(i).kind : null;
            boolean accepted = close(columns, i);
            for (Item item : column.items) {
                String next = item.next();
                if (next != null && next.equals(kind)) {
                    following.add(new Item(item.left, item.right, item.dot + 1, item.from));
                }
            }
            if (kind == null) {
                return accepted ? i + 1 : i;
            }
            if (following.items.isEmpty()) {
                return i;
            }
            columns.add(following);
        }
    }

    private static boolean close(List<Column> columns, int i) {
        Column column = columns.get(i);
        boolean accepted = false;
        boolean grown = true;
        while (grown) {
            int before = column.items.size();
            for (int k = 0; k < column.items.size(); k++) {
                Item item = column.items.get(k);
                String next = item.next();
                if (next == null) {
                    accepted |= item.left.equals("START");
                    List<Item> parents = columns.get(item.from).items;
                    for (int p = 0; p < parents.size(); p++) {
                        Item parent = parents.get(p);
                        if (item.left.equals(parent.next())) {
                            column.add(new Item(parent.left, parent.right, parent.dot + 1, parent.from));
                        }
                    }
                } else if (RULES.containsKey(next)) {
                    for (String[] right : RULES.get(next)) {
                        column.add(new Item(next, right, 0, i));
                    }
                }
            }
            grown = column.items.size() > before;
        }
        return accepted;
    }

    /** Which token is the first with which there is no room; -1 if there is none among the first ones. */
    private static int room(List<Token> tokens, int among) {
        int patterns = 0;
        int nested = 0;
        List<Character> open = new ArrayList<>();
        for (int i = 0; i < Math.min(among, tokens.size()); i++) {
            String kind = tokens.get(i).kind;
            String ahead = i == 0 ? "" : tokens.get(i - 1).kind;
            boolean unit = ahead.equals("NAME") || ahead.equals("INT") || ahead.equals(")");
            if (i >= 500) {
                return i;
            }
            if (kind.equals("pattern")) {
                patterns++;
                nested = 0;
                if (patterns == 9) {
                    return i;
                }
            } else if (kind.equals("for") || kind.equals("if")) {
                nested++;
                if (nested == 7) {
                    return i;
                }
            } else if (kind.equals("end")) {
                nested--;
            } else if (kind.equals("(") && ahead.equals("NAME")) {
                open.add('d');
            } else if (kind.equals("(") || kind.equals("-") && !unit) {
                open.add(kind.charAt(0));
                int deep = 0;
                for (char c : open) {
                    deep += c == 'd' ? 0 : 1;
                }
                if (deep == 7) {
                    return i;
                }
            } else if (kind.equals("INT") || kind.equals("NAME")) {
                dropSigns(open);
            } else if (kind.equals(")")) {
                dropSigns(open);
                open.remove(open.size() - 1);
                dropSigns(open);
            }
        }
        return -1;
    }

    private static void dropSigns(List<Character> open) {
        while (!open.isEmpty() && open.get(open.size() - 1) == '-') {
            open.remove(open.size() - 1);
        }
    }

    static TextModel read(String text) {
        TextModel model = new TextModel();
        List<Token> tokens = tokens(text);
        int taken = earley(tokens);
        int room = room(tokens, taken);
        if (room >= 0) {
            model.fault = 2;
            model.place = tokens.get(room).place;
        } else if (taken <= tokens.size()) {
            model.fault = 1;
            model.place = taken < tokens.size() ? tokens.get(taken).place : text.length();
        } else {
            model.build(tokens);
        }
        return model;
    }

    // ---- trees, of texts that are well formed

    private List<Token> list;
    private int at;

    private String peek() {
        return at < list.size() ? list.get(at).kind : "";
    }

    private Token take() {
        return list.get(at++);
    }

    private void build(List<Token> tokens) {
        list = tokens;
        at = 0;
        while (at < list.size()) {
            Told told = new Told();
            take();
            told.nameToken = take();
            told.name = told.nameToken.text;
            if (peek().equals("(")) {
                while (!peek().equals(")")) {
                    take();
                    told.parameters.add(take());
                }
                take();
            }
            block(told.deeds);
            take();
            patterns.add(told);
        }
        check();
    }

    private void block(List<Node> into) {
        while (!peek().equals("end") && !peek().equals("else")) {
            into.add(deed());
        }
    }

    private Node deed() {
        Token first = take();
        Node node = new Node(first.kind, first);
        switch (first.kind) {
            case "for":
                node.parts.add(new Node("loop", take()));
                take();
                node.parts.add(sum());
                take();
                node.parts.add(sum());
                block(node.deeds);
                take();
                return node;
            case "if":
                node.parts.add(joined("or"));
                block(node.deeds);
                if (peek().equals("else")) {
                    take();
                    block(node.others);
                }
                take();
                return node;
            case "do":
                node.parts.add(new Node("name", take()));
                if (peek().equals("(")) {
                    while (!peek().equals(")")) {
                        take();
                        node.parts.add(sum());
                    }
                    take();
                }
                take();
                return node;
            default:
                if (!first.kind.equals("drop")) {
                    node.name = take().kind;
                }
                node.parts.add(sum());
                while (peek().equals(",")) {
                    take();
                    node.parts.add(sum());
                }
                take();
                return node;
        }
    }

    private Node joined(String by) {
        Node node = new Node(by, list.get(at));
        node.parts.add(by.equals("or") ? joined("and") : relation());
        while (peek().equals(by)) {
            take();
            node.parts.add(by.equals("or") ? joined("and") : relation());
        }
        return node;
    }

    private Node relation() {
        Node left = sum();
        Token sign = take();
        Node node = new Node(sign.kind, sign);
        node.parts.add(left);
        node.parts.add(sum());
        return node;
    }

    private Node sum() {
        Node left = product();
        while (peek().equals("+") || peek().equals("-")) {
            left = binary(left, take(), product());
        }
        return left;
    }

    private Node product() {
        Node left = unit();
        while (peek().equals("*") || peek().equals("/") || peek().equals("%")) {
            left = binary(left, take(), unit());
        }
        return left;
    }

    private static Node binary(Node left, Token sign, Node right) {
        Node node = new Node(sign.kind, sign);
        node.parts.add(left);
        node.parts.add(right);
        return node;
    }

    private Node unit() {
        Token token = take();
        if (token.kind.equals("-")) {
            Node node = new Node("minus", token);
            node.parts.add(unit());
            return node;
        }
        if (token.kind.equals("(")) {
            Node node = sum();
            take();
            return node;
        }
        return new Node(token.kind, token);
    }

    // ---- the later faults

    private void lateFault(int number, Token token) {
        if (fault == 0 || token.place < place || token.place == place && number < fault) {
            fault = number;
            place = token.place;
        }
    }

    private void check() {
        for (int p = 0; p < patterns.size(); p++) {
            Told told = patterns.get(p);
            for (int q = 0; q < p; q++) {
                if (patterns.get(q).name.equals(told.name)) {
                    lateFault(3, told.nameToken);
                }
            }
            Set<String> reach = new LinkedHashSet<>();
            for (Token parameter : told.parameters) {
                if (!reach.add(parameter.text)) {
                    lateFault(3, parameter);
                }
            }
            checkDeeds(told.deeds, reach, p);
        }
    }

    private void checkDeeds(List<Node> deeds, Set<String> reach, int pattern) {
        for (Node deed : deeds) {
            Set<String> inside = new LinkedHashSet<>(reach);
            for (Node part : deed.parts) {
                if (part.kind.equals("loop")) {
                    if (!inside.add(part.token.text)) {
                        lateFault(3, part.token);
                    }
                } else if (part.kind.equals("name")) {
                    Told done = byName(part.token.text, pattern);
                    if (done == null) {
                        lateFault(4, part.token);
                    } else if (done.parameters.size() != deed.parts.size() - 1) {
                        lateFault(5, part.token);
                    }
                } else {
                    checkNames(part, reach);
                }
            }
            checkDeeds(deed.deeds, inside, pattern);
            checkDeeds(deed.others, inside, pattern);
        }
    }

    private void checkNames(Node node, Set<String> reach) {
        if (node.kind.equals("NAME") && !reach.contains(node.token.text)) {
            lateFault(4, node.token);
        }
        for (Node part : node.parts) {
            checkNames(part, reach);
        }
    }

    private Told byName(String name, int ahead) {
        for (int p = 0; p < ahead; p++) {
            if (patterns.get(p).name.equals(name)) {
                return patterns.get(p);
            }
        }
        return null;
    }

    // ---- doing

    static final class Break extends RuntimeException {
        private static final long serialVersionUID = 1;
        final int why;
        final int place;

        Break(int why, int place) {
            super(null, null, false, false);
            this.why = why;
            this.place = place;
        }
    }

    int deeds;

    /** The strokes of a pattern; throws a Break. */
    List<int[]> perform(int pattern, int a, int b, int room) {
        deeds = 0;
        List<int[]> strokes = new ArrayList<>();
        perform(patterns.get(pattern), new int[] {a, b}, strokes, room);
        return strokes;
    }

    private void perform(Told told, int[] given, List<int[]> strokes, int room) {
        Map<String, Integer> names = new HashMap<>();
        for (int i = 0; i < told.parameters.size(); i++) {
            names.put(told.parameters.get(i).text, given[i]);
        }
        performAll(told.deeds, names, strokes, room);
    }

    private void countDeed(Node deed) {
        deeds++;
        if (deeds == 2001) {
            throw new Break(1, deed.token.place);
        }
    }

    private void performAll(List<Node> list, Map<String, Integer> names, List<int[]> strokes, int room) {
        for (Node deed : list) {
            countDeed(deed);
            perform(deed, names, strokes, room);
        }
    }

    private void perform(Node deed, Map<String, Integer> names, List<int[]> strokes, int room) {
        switch (deed.kind) {
            case "for":
                long first = value(deed.parts.get(1), names, deed);
                long last = value(deed.parts.get(2), names, deed);
                for (long i = first; i <= last; i++) {
                    countDeed(deed);
                    Map<String, Integer> inside = new HashMap<>(names);
                    inside.put(deed.parts.get(0).token.text, (int) i);
                    performAll(deed.deeds, inside, strokes, room);
                }
                return;
            case "if":
                performAll(holds(deed.parts.get(0), names, deed) ? deed.deeds : deed.others, names, strokes, room);
                return;
            case "do":
                int[] given = new int[2];
                for (int i = 1; i < deed.parts.size(); i++) {
                    given[i - 1] = value(deed.parts.get(i), names, deed);
                }
                perform(byName(deed.parts.get(0).token.text, patterns.size()), given, strokes, room);
                return;
            default:
                stroke(deed, names, strokes, room);
        }
    }

    private void stroke(Node deed, Map<String, Integer> names, List<int[]> strokes, int room) {
        List<Integer> numbers = new ArrayList<>();
        numbers.add(List.of("drop", "line", "comb", "wave").indexOf(deed.kind));
        if (deed.name != null) {
            numbers.add(deed.name.equals("x") ? 0 : 1);
        }
        for (Node part : deed.parts) {
            numbers.add(value(part, names, deed));
        }
        int[] stroke = numbers.stream().mapToInt(i -> i).toArray();
        if (!BathModel.fits(stroke)) {
            throw new Break(2, deed.token.place);
        }
        if (strokes.size() >= room) {
            throw new Break(4, deed.token.place);
        }
        strokes.add(stroke);
    }

    private boolean holds(Node node, Map<String, Integer> names, Node deed) {
        if (node.kind.equals("or")) {
            for (Node part : node.parts) {
                if (holds(part, names, deed)) {
                    return true;
                }
            }
            return false;
        }
        if (node.kind.equals("and")) {
            for (Node part : node.parts) {
                if (!holds(part, names, deed)) {
                    return false;
                }
            }
            return true;
        }
        int left = value(node.parts.get(0), names, deed);
        int right = value(node.parts.get(1), names, deed);
        switch (node.kind) {
            case "==":
                return left == right;
            case "!=":
                return left != right;
            case "<":
                return left < right;
            default:
                return left <= right;
        }
    }

    private int value(Node node, Map<String, Integer> names, Node deed) {
        if (node.kind.equals("INT")) {
            return Integer.parseInt(node.token.text);
        }
        if (node.kind.equals("NAME")) {
            return names.get(node.token.text);
        }
        long left = value(node.parts.get(0), names, deed);
        if (node.kind.equals("minus")) {
            return (int) -left;
        }
        long right = value(node.parts.get(1), names, deed);
        if (right == 0 && (node.kind.equals("/") || node.kind.equals("%"))) {
            throw new Break(3, deed.token.place);
        }
        switch (node.kind) {
            case "+":
                return (int) (left + right);
            case "-":
                return (int) (left - right);
            case "*":
                return (int) (left * right);
            case "/":
                return (int) (left / right);
            default:
                return (int) (left % right);
        }
    }
}
