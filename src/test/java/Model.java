import java.util.ArrayList;
import java.util.HashMap;
import java.util.HashSet;
import java.util.LinkedHashMap;
import java.util.List;
import java.util.Map;
import java.util.Set;

/**
 * A second engine for the tests, written from the document in another way than the class: a tree of the
 * text, walked by recursion, with faults and failures as exceptions and ways kept as lists of objects.
 */
final class Model {
    static final Set<String> KEYS = Set.of("fn", "let", "if", "else", "while", "print", "return", "del",
        "new", "row", "size", "none");

    static final class Fault extends RuntimeException {
        final int kind;
        final int place;

        Fault(int kind, int place) {
            super(null, null, false, false);
            this.kind = kind;
            this.place = place;
        }
    }

    static final class Failure extends RuntimeException {
        final int kind;
        final int place;

        Failure(int kind, int place) {
            super(null, null, false, false);
            this.kind = kind;
            this.place = place;
        }
    }

    static final class Spent extends RuntimeException {
        Spent() {
            super(null, null, false, false);
        }
    }

    static final class Returned extends RuntimeException {
        final Object value;

        Returned(Object value) {
            super(null, null, false, false);
            this.value = value;
        }
    }

    record Token(char sort, String text, int place) {
    }

    static final class Node {
        final String kind;
        final int place;
        String name;
        long number;
        final List<Node> parts = new ArrayList<>();
        List<Node> then;
        List<Node> other;
        Site site;

        Node(String kind, int place, Node... parts) {
            this.kind = kind;
            this.place = place;
            this.parts.addAll(List.of(parts));
        }
    }

    static final class Fn {
        String name;
        int namePlace;
        final List<Token> names = new ArrayList<>();
        List<Node> body;
        int index;
        int calls;
        int count;
        boolean made;
        int mades;
        int lefts;
        int leftAt = -1;
    }

    static final class Site {
        int kind;
        int place;
        Fn fn;
        String name;
        int index;
        int ran;
        int hits;
        boolean many;
        boolean wholes;
        boolean wides;
        final List<Entry> entries = new ArrayList<>();
        Set<Integer> guess;
    }

    record Entry(Shape shape, List<Obj> way) {
    }

    static final class Shape {
        int index;
        Obj parent;
        List<String> names;
        int shorter = -1;
        int longer;
    }

    static final class Obj {
        int index;
        Obj parent;
        final LinkedHashMap<String, Object> members = new LinkedHashMap<>();
        Shape shape;
    }

    static final class Row {
        int index;
        int has;
        Object[] items;
    }

    static final class Text {
        int size;
        final List<Fn> fns = new ArrayList<>();
        List<Node> main;
        final List<Site> sites = new ArrayList<>();
        final Set<String> mainVariables = new HashSet<>();
    }

    // ---- the text

    private static final class Reader {
        final byte[] bytes;
        final List<Token> tokens = new ArrayList<>();
        int at;
        int open;

        Reader(byte[] bytes) {
            this.bytes = bytes;
            cut();
        }

        private void cut() {
            String s = new String(bytes, java.nio.charset.StandardCharsets.ISO_8859_1);
            int i = 0;
            while (i < s.length()) {
                char c = s.charAt(i);
                if (c == ' ' || c == '\n') {
                    i++;
                    continue;
                }
                int j = i;
                if (c >= 'a' && c <= 'z') {
                    while (j < s.length() && String.valueOf(s.charAt(j)).matches("[a-z0-9]")) j++;
                    String w = s.substring(i, j);
                    tokens.add(new Token(w.length() > 8 ? '?' : KEYS.contains(w) ? 'k' : 'w', w, i));
                } else if (c >= '0' && c <= '9') {
                    while (j < s.length() && String.valueOf(s.charAt(j)).matches("[0-9]")) j++;
                    String w = s.substring(i, j);
                    boolean good = w.length() <= 9 && Long.parseLong(w) <= 536870911L;
                    tokens.add(new Token(good ? 'n' : '?', w, i));
                } else if (s.startsWith("==", i)) {
                    j = i + 2;
                    tokens.add(new Token('s', "==", i));
                } else {
                    j = i + 1;
                    tokens.add(new Token("(){}[];,.=<+-*".indexOf(c) >= 0 ? 's' : '?', "" + c, i));
                }
                i = j;
            }
            tokens.add(new Token('e', "", bytes.length));
        }

        Token here() {
            return tokens.get(at);
        }

        boolean is(String text) {
            Token t = here();
            return (t.sort == 's' || t.sort == 'k') && t.text.equals(text);
        }

        Fault wrong() {
            return new Fault(1, here().place);
        }

        Token need(String text) {
            if (!is(text)) throw wrong();
            return tokens.get(at++);
        }

        Token needName() {
            if (here().sort != 'w') throw wrong();
            return tokens.get(at++);
        }

        Token enter(String text) {
            if (!is(text) || open == 8) throw wrong();
            open++;
            return tokens.get(at++);
        }

        void exit(String text) {
            need(text);
            open--;
        }

        Text program() {
            Text text = new Text();
            text.size = bytes.length;
            while (is("fn")) {
                if (text.fns.size() == 8) throw wrong();
                text.fns.add(function(text.fns.size()));
            }
            text.main = new ArrayList<>();
            while (here().sort != 'e') text.main.add(step());
            return text;
        }

        Fn function(int index) {
            need("fn");
            Fn fn = new Fn();
            fn.index = index;
            Token name = needName();
            fn.name = name.text;
            fn.namePlace = name.place;
            enter("(");
            if (!is(")")) {
                fn.names.add(needName());
                while (is(",")) {
                    at++;
                    if (fn.names.size() == 4) throw wrong();
                    fn.names.add(needName());
                }
            }
            exit(")");
            fn.body = block();
            return fn;
        }

        List<Node> block() {
            enter("{");
            List<Node> steps = new ArrayList<>();
            while (!is("}")) steps.add(step());
            exit("}");
            return steps;
        }

        Node step() {
            Token first = here();
            if (first.sort == 'k') {
                switch (first.text) {
                    case "let": {
                        at++;
                        Token name = needName();
                        need("=");
                        Node n = new Node("let", name.place, e());
                        n.name = name.text;
                        need(";");
                        return n;
                    }
                    case "if": {
                        at++;
                        Node n = new Node("if", first.place, e());
                        n.then = block();
                        if (is("else")) {
                            at++;
                            n.other = block();
                        }
                        return n;
                    }
                    case "while": {
                        at++;
                        Node n = new Node("while", first.place, e());
                        n.then = block();
                        return n;
                    }
                    case "print":
                    case "return": {
                        at++;
                        Node n = new Node(first.text, first.place, e());
                        need(";");
                        return n;
                    }
                    case "del": {
                        at++;
                        Node target = e();
                        if (!target.kind.equals("member")) throw wrong();
                        need(";");
                        return new Node("del", first.place, target);
                    }
                    default:
                        break;
                }
            }
            Node left = e();
            if (is("=")) {
                if (!Set.of("variable", "member", "item").contains(left.kind)) throw wrong();
                at++;
                Node right = e();
                need(";");
                return new Node("put", first.place, left, right);
            }
            need(";");
            return new Node("do", first.place, left);
        }

        Node e() {
            Node left = sum();
            if (is("<") || is("==")) {
                Token sign = tokens.get(at++);
                return new Node(sign.text, sign.place, left, sum());
            }
            return left;
        }

        Node sum() {
            Node left = term();
            while (is("+") || is("-")) {
                Token sign = tokens.get(at++);
                left = new Node(sign.text, sign.place, left, term());
            }
            return left;
        }

        Node term() {
            Node left = post();
            while (is("*")) {
                Token sign = tokens.get(at++);
                left = new Node(sign.text, sign.place, left, post());
            }
            return left;
        }

        Node post() {
            Node left = one();
            while (is(".") || is("[")) {
                if (is(".")) {
                    Token dot = need(".");
                    left = new Node("member", dot.place, left);
                    left.name = needName().text;
                } else {
                    Token bracket = enter("[");
                    left = new Node("item", bracket.place, left, e());
                    exit("]");
                }
            }
            return left;
        }

        Node one() {
            Token t = here();
            if (t.sort == 'n') {
                at++;
                Node n = new Node("number", t.place);
                n.number = Long.parseLong(t.text);
                return n;
            }
            if (t.sort == 'w') {
                at++;
                if (!is("(")) {
                    Node n = new Node("variable", t.place);
                    n.name = t.text;
                    return n;
                }
                Node n = new Node("call", t.place);
                n.name = t.text;
                enter("(");
                if (!is(")")) {
                    n.parts.add(e());
                    while (is(",")) {
                        at++;
                        if (n.parts.size() == 4) throw wrong();
                        n.parts.add(e());
                    }
                }
                exit(")");
                return n;
            }
            if (is("-")) {
                enter("-");
                Node n = new Node("negate", t.place, one());
                open--;
                return n;
            }
            if (is("none")) {
                at++;
                return new Node("none", t.place);
            }
            if (is("new") || is("row") || is("size")) {
                at++;
                enter("(");
                Node n = new Node(t.text, t.place);
                if (!(t.text.equals("new") && is(")"))) n.parts.add(e());
                exit(")");
                return n;
            }
            if (is("(")) {
                enter("(");
                Node n = new Node("paren", t.place, e());
                exit(")");
                return n;
            }
            throw wrong();
        }
    }

    /** Finds what is wrong with a tree that the grammar lets pass, and its sites. */
    private static final class Judge {
        final Text text;
        final List<Fault> faults = new ArrayList<>();
        Fn fn;
        Set<String> known;

        Judge(Text text) {
            this.text = text;
        }

        void judge() {
            Set<String> names = new HashSet<>();
            for (Fn f : text.fns) {
                if (!names.add(f.name)) faults.add(new Fault(2, f.namePlace));
            }
            for (Fn f : text.fns) {
                fn = f;
                known = new HashSet<>();
                for (Token t : f.names) {
                    if (!known.add(t.text)) faults.add(new Fault(3, t.place));
                }
                steps(f.body);
            }
            fn = null;
            known = text.mainVariables;
            steps(text.main);
            text.sites.sort((a, b) -> Integer.compare(a.place, b.place));
            for (int i = 0; i < text.sites.size(); i++) text.sites.get(i).index = i;
            if (text.sites.size() > 80) faults.add(new Fault(3, text.sites.get(80).place));
            Fault best = null;
            for (Fault f : faults) {
                if (best == null || f.place < best.place || f.place == best.place && f.kind < best.kind) best = f;
            }
            if (best != null) throw best;
        }

        void steps(List<Node> steps) {
            for (Node n : steps) step(n);
        }

        void step(Node n) {
            switch (n.kind) {
                case "let":
                    value(n.parts.get(0));
                    if (!known.contains(n.name)) {
                        if (known.size() == 12) faults.add(new Fault(3, n.place));
                        else known.add(n.name);
                    }
                    break;
                case "put": {
                    Node left = n.parts.get(0);
                    if (left.kind.equals("member")) {
                        value(left.parts.get(0));
                        site(left, 1);
                    } else {
                        value(left);
                    }
                    value(n.parts.get(1));
                    break;
                }
                case "del":
                    value(n.parts.get(0).parts.get(0));
                    site(n.parts.get(0), 2);
                    break;
                default:
                    value(n.parts.get(0));
                    break;
            }
            if (n.then != null) steps(n.then);
            if (n.other != null) steps(n.other);
        }

        void value(Node n) {
            for (Node part : n.parts) value(part);
            switch (n.kind) {
                case "member": site(n, 0); break;
                case "+": case "-": case "*": site(n, 3); break;
                case "variable":
                    if (!known.contains(n.name)) faults.add(new Fault(2, n.place));
                    break;
                case "call": {
                    Fn found = null;
                    for (Fn f : text.fns) {
                        if (found == null && f.name.equals(n.name)) found = f;
                    }
                    if (found == null) faults.add(new Fault(2, n.place));
                    else if (found.names.size() != n.parts.size()) faults.add(new Fault(3, n.place));
                    break;
                }
                default: break;
            }
        }

        void site(Node n, int kind) {
            Site s = new Site();
            s.kind = kind;
            s.place = n.place;
            s.fn = fn;
            s.name = n.name;
            n.site = s;
            text.sites.add(s);
        }
    }

    // ---- the state and the face

    private Text text;
    private byte[] tape = new byte[0];
    private int faultKind;
    private int faultPlace = -1;

    private List<Obj> objects = new ArrayList<>();
    private List<Row> rows = new ArrayList<>();
    private List<Shape> shapes = new ArrayList<>();
    private Map<String, Shape> shapesByKey = new HashMap<>();
    private List<Object> paper = new ArrayList<>();
    private int[] told = new int[16];
    private int limit;
    private int depth;

    Model() {
        forget();
    }

    private void forget() {
        objects = new ArrayList<>();
        rows = new ArrayList<>();
        shapes = new ArrayList<>();
        shapesByKey = new HashMap<>();
        paper = new ArrayList<>();
        told = new int[16];
        told[1] = -1;
        depth = 0;
    }

    void feed(byte[] bytes) {
        tape = bytes;
    }

    int read() {
        byte[] taken = tape;
        tape = new byte[0];
        try {
            Text read = new Reader(taken).program();
            new Judge(read).judge();
            text = read;
            faultKind = 0;
            faultPlace = -1;
            forget();
            return text.sites.size();
        } catch (Fault f) {
            faultKind = f.kind;
            faultPlace = f.place;
            return -10 - f.kind;
        }
    }

    int fault(int what) {
        return what == 0 ? faultKind : faultPlace;
    }

    int run(int most) {
        if (text == null) return -3;
        forget();
        for (Site s : text.sites) {
            s.ran = 0;
            s.hits = 0;
            s.many = false;
            s.wholes = false;
            s.wides = false;
            s.entries.clear();
            s.guess = null;
        }
        for (Fn f : text.fns) {
            f.calls = 0;
            f.count = 0;
            f.made = false;
            f.mades = 0;
            f.lefts = 0;
            f.leftAt = -1;
        }
        limit = most;
        int ending = 0;
        try {
            steps(text.main, new HashMap<>());
        } catch (Returned r) {
            ending = 0;
        } catch (Failure f) {
            told[0] = f.kind;
            told[1] = f.place;
            ending = 1;
        } catch (Spent s) {
            ending = 2;
        }
        told[4] = objects.size();
        told[5] = shapes.size();
        told[6] = rows.size();
        told[7] = paper.size();
        return ending;
    }

    private void takeStep() {
        if (told[2] == limit) throw new Spent();
        told[2]++;
    }

    private void steps(List<Node> steps, Map<String, Object> variables) {
        for (Node n : steps) step(n, variables);
    }

    private void step(Node n, Map<String, Object> variables) {
        takeStep();
        switch (n.kind) {
            case "let": variables.put(n.name, value(n.parts.get(0), variables)); break;
            case "print": paper.add(value(n.parts.get(0), variables)); break;
            case "return": throw new Returned(value(n.parts.get(0), variables));
            case "do": value(n.parts.get(0), variables); break;
            case "if":
                if (truth(n, variables)) steps(n.then, variables);
                else if (n.other != null) steps(n.other, variables);
                break;
            case "while":
                while (truth(n, variables)) {
                    steps(n.then, variables);
                    takeStep();
                }
                break;
            case "del": strike(n.parts.get(0), variables); break;
            case "put": put(n.parts.get(0), n.parts.get(1), variables); break;
            default: throw new IllegalStateException(n.kind);
        }
    }

    private boolean truth(Node n, Map<String, Object> variables) {
        Object v = value(n.parts.get(0), variables);
        if (!(v instanceof Long)) throw new Failure(1, n.place);
        return (Long) v != 0;
    }

    private void put(Node left, Node right, Map<String, Object> variables) {
        if (left.kind.equals("variable")) {
            variables.put(left.name, value(right, variables));
            return;
        }
        Object owner = value(left.parts.get(0), variables);
        if (left.kind.equals("item")) {
            Object place = value(left.parts.get(1), variables);
            Object v = value(right, variables);
            Row row = itemRow(owner, place, left.place);
            int has = !isWhole(v) ? 2 : (Long) v < -128 || (Long) v > 127 ? 1 : 0;
            if (has > row.has) {
                row.has = has;
                told[14]++;
            }
            row.items[(int) (long) (Long) place] = v;
            return;
        }
        Object v = value(right, variables);
        if (!(owner instanceof Obj)) throw new Failure(2, left.place);
        Obj o = (Obj) owner;
        left.site.ran++;
        keep(left.site, o, List.of());
        breakWays(o);
        boolean fresh = !o.members.containsKey(left.site.name);
        o.members.put(left.site.name, v);
        if (!fresh || o.shape == null) return;
        if (o.members.size() == 9) {
            o.shape = null;
            told[8]++;
        } else {
            o.shape = shapeOf(o.parent, new ArrayList<>(o.members.keySet()));
        }
    }

    private void strike(Node target, Map<String, Object> variables) {
        Object owner = value(target.parts.get(0), variables);
        if (!(owner instanceof Obj)) throw new Failure(2, target.place);
        Obj o = (Obj) owner;
        target.site.ran++;
        if (!o.members.containsKey(target.site.name)) return;
        breakWays(o);
        o.members.remove(target.site.name);
        if (o.shape != null) told[8]++;
        o.shape = null;
    }

    private void breakWays(Obj o) {
        for (Site s : text.sites) {
            int before = s.entries.size();
            s.entries.removeIf(e -> e.way.contains(o));
            told[11] += before - s.entries.size();
        }
    }

    private boolean keep(Site s, Obj o, List<Obj> way) {
        if (o.shape == null) return false;
        for (Entry e : s.entries) {
            if (e.shape == o.shape) {
                s.hits++;
                return true;
            }
        }
        if (s.many) return false;
        if (s.entries.size() == 4) {
            s.many = true;
            s.entries.clear();
        } else {
            s.entries.add(new Entry(o.shape, way));
        }
        return false;
    }

    private Shape shapeOf(Obj parent, List<String> names) {
        String key = (parent == null ? -1 : parent.index) + ":" + names;
        Shape found = shapesByKey.get(key);
        if (found != null) return found;
        Shape s = new Shape();
        s.index = shapes.size();
        s.parent = parent;
        s.names = names;
        shapes.add(s);
        shapesByKey.put(key, s);
        if (!names.isEmpty()) {
            Shape less = shapesByKey.get((parent == null ? -1 : parent.index) + ":"
                + names.subList(0, names.size() - 1));
            s.shorter = less.index;
            less.longer++;
        }
        return s;
    }

    private static boolean isWhole(Object v) {
        return v instanceof Long && (Long) v >= -(1L << 30) && (Long) v < 1L << 30;
    }

    private Row itemRow(Object row, Object place, int at) {
        if (!(row instanceof Row)) throw new Failure(2, at);
        if (!(place instanceof Long)) throw new Failure(1, at);
        long i = (Long) place;
        if (i < 0 || i >= ((Row) row).items.length) throw new Failure(3, at);
        return (Row) row;
    }

    private Object value(Node n, Map<String, Object> variables) {
        switch (n.kind) {
            case "number": return n.number;
            case "none": return null;
            case "variable": return variables.get(n.name);
            case "paren": return value(n.parts.get(0), variables);
            case "call": return call(n, variables);
            case "member": return member(n, variables);
            case "negate": {
                Object v = value(n.parts.get(0), variables);
                if (!(v instanceof Long)) throw new Failure(1, n.place);
                return -(Long) v;
            }
            case "item": {
                Object row = value(n.parts.get(0), variables);
                Object place = value(n.parts.get(1), variables);
                return itemRow(row, place, n.place).items[(int) (long) (Long) place];
            }
            case "size": {
                Object v = value(n.parts.get(0), variables);
                if (v instanceof Row) return (long) ((Row) v).items.length;
                if (v instanceof Obj) return (long) ((Obj) v).members.size();
                throw new Failure(2, n.place);
            }
            case "row": {
                Object v = value(n.parts.get(0), variables);
                if (!(v instanceof Long)) throw new Failure(1, n.place);
                if ((Long) v < 0 || (Long) v > 50) throw new Failure(4, n.place);
                if (rows.size() == 60) throw new Failure(6, n.place);
                Row row = new Row();
                row.index = rows.size();
                row.items = new Object[(int) (long) (Long) v];
                java.util.Arrays.fill(row.items, 0L);
                rows.add(row);
                return row;
            }
            case "new": {
                Object v = n.parts.isEmpty() ? null : value(n.parts.get(0), variables);
                if (v != null && !(v instanceof Obj)) throw new Failure(2, n.place);
                if (objects.size() == 200) throw new Failure(6, n.place);
                Obj o = new Obj();
                o.index = objects.size();
                o.parent = (Obj) v;
                o.shape = shapeOf(o.parent, new ArrayList<>());
                objects.add(o);
                return o;
            }
            default: return binary(n, variables);
        }
    }

    private Object binary(Node n, Map<String, Object> variables) {
        Object left = value(n.parts.get(0), variables);
        Object right = value(n.parts.get(1), variables);
        if (n.kind.equals("==")) {
            boolean same = left == right || left instanceof Long && left.equals(right);
            return same ? 1L : 0L;
        }
        if (!(left instanceof Long) || !(right instanceof Long)) throw new Failure(1, n.place);
        long a = (Long) left;
        long b = (Long) right;
        if (n.kind.equals("<")) return a < b ? 1L : 0L;
        Object v = n.kind.equals("+") ? a + b : n.kind.equals("-") ? a - b : a * b;
        n.site.ran++;
        if (isWhole(v)) n.site.wholes = true;
        else n.site.wides = true;
        if (!isWhole(v) && n.site.guess != null) leave(n.site);
        return v;
    }

    private Object member(Node n, Map<String, Object> variables) {
        Object owner = value(n.parts.get(0), variables);
        if (!(owner instanceof Obj)) throw new Failure(2, n.place);
        Obj o = (Obj) owner;
        Site s = n.site;
        s.ran++;
        List<Obj> way = new ArrayList<>();
        Object v = null;
        if (o.members.containsKey(s.name)) {
            v = o.members.get(s.name);
        } else {
            for (Obj p = o.parent; p != null; p = p.parent) {
                way.add(p);
                if (p.members.containsKey(s.name)) {
                    v = p.members.get(s.name);
                    break;
                }
            }
        }
        if (keep(s, o, way)) told[9]++;
        else told[10]++;
        if (s.guess != null && (o.shape == null || !s.guess.contains(o.shape.index))) leave(s);
        return v;
    }

    private void leave(Site s) {
        Fn f = s.fn;
        f.made = false;
        f.count = 0;
        f.lefts++;
        f.leftAt = s.index;
        told[13]++;
        for (Site other : text.sites) {
            if (other.fn == f) other.guess = null;
        }
    }

    private Object call(Node n, Map<String, Object> variables) {
        List<Object> given = new ArrayList<>();
        for (Node part : n.parts) given.add(value(part, variables));
        takeStep();
        if (depth == 12) throw new Failure(5, n.place);
        Fn f = null;
        for (Fn any : text.fns) {
            if (any.name.equals(n.name)) f = any;
        }
        told[3]++;
        f.calls++;
        f.count++;
        if (f.count == 4 && !f.made && f.lefts < 3) make(f);
        Map<String, Object> own = new HashMap<>();
        for (int i = 0; i < given.size(); i++) own.put(f.names.get(i).text, given.get(i));
        depth++;
        told[15] = Math.max(told[15], depth);
        Object v = null;
        try {
            steps(f.body, own);
        } catch (Returned r) {
            v = r.value;
        }
        depth--;
        return v;
    }

    private void make(Fn f) {
        f.made = true;
        f.mades++;
        told[12]++;
        for (Site s : text.sites) {
            if (s.fn != f) continue;
            s.guess = null;
            if (s.kind == 3 && s.wholes && !s.wides) s.guess = Set.of();
            if (s.kind != 0 || s.many || s.entries.isEmpty()) continue;
            s.guess = new HashSet<>();
            for (Entry e : s.entries) s.guess.add(e.shape.index);
        }
    }

    private static int sort(Object v) {
        if (v == null) return 0;
        if (v instanceof Long) return isWhole(v) ? 1 : 2;
        return v instanceof Obj ? 3 : 4;
    }

    private static int number(Object v) {
        if (v instanceof Obj) return ((Obj) v).index;
        return v instanceof Row ? ((Row) v).index : 0;
    }

    private static long worth(Object v) {
        return v instanceof Long ? (Long) v : 0;
    }

    // ---- comparing all that an engine tells

    void compare(ShapeEngine engine, String of) {
        for (int w = 0; w < 16; w++) Check.due("told(" + w + ") " + of, engine.told(w), told[w]);
        Check.due("fault(0) " + of, engine.fault(0), faultKind);
        Check.due("fault(1) " + of, engine.fault(1), faultPlace);
        comparePaper(engine, of);
        for (Obj o : objects) compareObject(engine, o, of);
        Check.due("object past the last " + of, engine.object(objects.size(), 0), -2);
        for (Row r : rows) compareRow(engine, r, of);
        Check.due("row past the last " + of, engine.row(rows.size(), 0), -2);
        for (Shape s : shapes) compareShape(engine, s, of);
        Check.due("shape past the last " + of, engine.shape(shapes.size(), 0), -2);
        if (text == null) return;
        for (Site s : text.sites) compareSite(engine, s, of);
        Check.due("site past the last " + of, engine.site(text.sites.size(), 0), -2);
        for (Fn f : text.fns) compareFn(engine, f, of);
        Check.due("fn past the last " + of, engine.fn(text.fns.size(), 0), -2);
        int[] counts = {text.size, text.fns.size(), text.sites.size(), text.mainVariables.size(), 0};
        for (int w = 0; w < 5; w++) Check.due("count(" + w + ") " + of, engine.count(w), counts[w]);
    }

    private void comparePaper(ShapeEngine engine, String of) {
        int kept = Math.min(200, paper.size());
        for (int i = 0; i < kept; i++) {
            Object v = paper.get(i);
            Check.due("paper(" + i + ", 0) " + of, engine.paper(i, 0), sort(v));
            Check.due("paper(" + i + ", 1) " + of, engine.paper(i, 1), number(v));
            Check.due("printed(" + i + ") " + of, engine.printed(i), worth(v));
        }
        Check.due("paper past the last " + of, engine.paper(kept, 0), -1);
        Check.due("printed past the last " + of, engine.printed(kept), 0);
    }

    private void compareObject(ShapeEngine engine, Obj o, String of) {
        Check.due("object(" + o.index + ", 0) " + of, engine.object(o.index, 0), o.shape == null ? -1 : o.shape.index);
        Check.due("object(" + o.index + ", 1) " + of, engine.object(o.index, 1), o.parent == null ? -1 : o.parent.index);
        Check.due("object(" + o.index + ", 2) " + of, engine.object(o.index, 2), o.members.size());
        int i = 0;
        for (Map.Entry<String, Object> m : o.members.entrySet()) {
            String call = "(" + o.index + ", " + i + ") " + of;
            Check.due("member 0 " + call, engine.member(o.index, i, 0), sort(m.getValue()));
            Check.due("member 1 " + call, engine.member(o.index, i, 1), number(m.getValue()));
            Check.due("worth " + call, engine.worth(o.index, i), worth(m.getValue()));
            for (int k = 0; k < 9; k++) {
                int want = k < m.getKey().length() ? m.getKey().charAt(k) : 0;
                Check.due("letter " + k + " " + call, engine.letter(o.index, i, k), want);
            }
            i++;
        }
        Check.due("member past the last " + of, engine.member(o.index, i, 0), -1);
    }

    private void compareRow(ShapeEngine engine, Row r, String of) {
        Check.due("row(" + r.index + ", 0) " + of, engine.row(r.index, 0), r.has);
        Check.due("row(" + r.index + ", 1) " + of, engine.row(r.index, 1), r.items.length);
        for (int i = 0; i < r.items.length; i++) {
            Check.due("row(" + r.index + ", " + (2 + i) + ") " + of, engine.row(r.index, 2 + i), sort(r.items[i]));
            Check.due("item(" + r.index + ", " + i + ") " + of, engine.item(r.index, i), worth(r.items[i]));
        }
        Check.due("item past the last " + of, engine.row(r.index, 2 + r.items.length), -1);
    }

    private void compareShape(ShapeEngine engine, Shape s, String of) {
        int[] want = {s.parent == null ? -1 : s.parent.index, s.names.size(), s.shorter, s.longer};
        for (int w = 0; w < 4; w++) {
            Check.due("shape(" + s.index + ", " + w + ") " + of, engine.shape(s.index, w), want[w]);
        }
    }

    private void compareSite(ShapeEngine engine, Site s, String of) {
        int keeps = s.kind == 3 ? (s.wholes ? 1 : 0) + (s.wides ? 2 : 0) : s.entries.size();
        int[] want = {s.kind, s.place, s.ran, s.hits, keeps, s.many ? 1 : 0, s.fn == null ? -1 : s.fn.index,
            s.guess == null ? 0 : 1, -1, -1, -1, -1, -1};
        for (int i = 0; i < s.entries.size(); i++) want[8 + i] = s.entries.get(i).shape.index;
        for (int w = 0; w < want.length; w++) {
            Check.due("site(" + s.index + ", " + w + ") " + of, engine.site(s.index, w), want[w]);
        }
    }

    private void compareFn(ShapeEngine engine, Fn f, String of) {
        int[] want = {f.names.size(), f.calls, f.count, f.made ? 1 : 0, f.mades, f.lefts, f.lefts >= 3 ? 1 : 0, f.leftAt};
        for (int w = 0; w < want.length; w++) {
            Check.due("fn(" + f.index + ", " + w + ") " + of, engine.fn(f.index, w), want[w]);
        }
    }
}
