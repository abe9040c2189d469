import java.util.ArrayList;
import java.util.Arrays;
import java.util.HashMap;
import java.util.HashSet;
import java.util.LinkedHashMap;
import java.util.LinkedHashSet;
import java.util.List;
import java.util.Map;
import java.util.NoSuchElementException;
import java.util.Set;

/**
 * The document said a second time, as plainly as can be: trees, maps and recursion, nothing shared with the class.
 * A tree that grows beyond all bounds throws TooMuch; a test leaves that run then.
 */
final class Oracle {
    static final class TooMuch extends RuntimeException { }

    private static final class Syntax extends RuntimeException {
        final int at;

        Syntax(int at) {
            this.at = at;
        }
    }

    private static final class Fault extends RuntimeException {
        final int code;
        final int place;

        Fault(int code, int place) {
            this.code = code;
            this.place = place;
        }
    }

    private static final class Stop extends RuntimeException {
        final int code;

        Stop(int code) {
            this.code = code;
        }
    }

    // ---- expressions

    static final class Node {
        final char kind;
        final int place;
        int number;
        char letter;
        Node[] parts = new Node[0];

        Node(char kind, int place, Node... parts) {
            this.kind = kind;
            this.place = place;
            this.parts = parts;
        }

        boolean isValue() {
            return switch (kind) {
                case '%', 'v', 'n', 't' -> true;
                case '{' -> parts[0].isValue() && parts[1].isValue();
                default -> false;
            };
        }
    }

    private static final class Parser {
        final String text;
        final boolean holes;
        int at;
        int open;

        Parser(String text, int at, boolean holes) {
            this.text = text;
            this.at = at;
            this.holes = holes;
        }

        // 0 for the end, 1 for what is behind the 76th sign
        int next() {
            if (at >= text.length()) {
                return -1;
            }
            return at >= 76 ? -2 : text.charAt(at);
        }

        Syntax wrong() {
            return new Syntax(at);
        }

        void eat(char c) {
            if (next() != c) {
                throw wrong();
            }
            at++;
        }

        void opening() {
            if (open == 8) {
                throw wrong();
            }
            open++;
        }

        char letter() {
            int c = next();
            if (c < 'a' || c > 'z') {
                throw wrong();
            }
            at++;
            return (char) c;
        }

        Node whole() {
            Node e = expression();
            if (next() != -1) {
                throw wrong();
            }
            return e;
        }

        Node expression() {
            int place = at;
            int c = next();
            if (c == '%' || c == '$') {
                opening();
                at++;
                char letter = letter();
                eat('.');
                Node e = new Node((char) c, place, expression());
                e.letter = letter;
                open--;
                return e;
            }
            if (c == '[') {
                opening();
                at++;
                char letter = letter();
                eat('=');
                Node first = expression();
                eat(']');
                Node e = new Node('[', place, first, expression());
                e.letter = letter;
                open--;
                return e;
            }
            Node left = comparison();
            if (next() == '~') {
                at++;
                return new Node('~', left.place, left, comparison());
            }
            return left;
        }

        Node comparison() {
            Node left = sum();
            int c = next();
            if (c == '<' || c == '=') {
                at++;
                return new Node((char) c, left.place, left, sum());
            }
            return left;
        }

        Node sum() {
            Node left = term();
            int terms = 1;
            while (terms < 8 && (next() == '+' || next() == '-')) {
                char c = (char) next();
                at++;
                left = new Node(c, left.place, left, term());
                terms++;
            }
            return left;
        }

        Node term() {
            Node left = factor();
            int factors = 1;
            while (factors < 8 && next() > 0
                    && ("abcdefghijklmnopqrstuvwxyz0123456789TF({?&|@!" + (holes ? "_" : "")).indexOf(next()) >= 0) {
                left = new Node('A', left.place, left, factor());
                factors++;
            }
            return left;
        }

        Node factor() {
            int place = at;
            int c = next();
            if (c >= 'a' && c <= 'z') {
                Node e = new Node('v', place);
                e.letter = letter();
                return e;
            }
            if (c >= '0' && c <= '9') {
                Node e = new Node('n', place);
                while (at - place < 3 && next() >= '0' && next() <= '9') {
                    e.number = 10 * e.number + next() - '0';
                    at++;
                }
                return e;
            }
            if (c == 'T' || c == 'F') {
                at++;
                Node e = new Node('t', place);
                e.number = c == 'T' ? 1 : 0;
                return e;
            }
            if (c == '_' && holes) {
                at++;
                return new Node('_', place);
            }
            if (c != '(' && c != '{' && c != '?' && c != '&' && c != '|' && c != '@' && c != '!') {
                throw wrong();
            }
            opening();
            at++;
            Node e = opened((char) c, place);
            open--;
            return e;
        }

        Node opened(char c, int place) {
            switch (c) {
                case '(': {
                    Node e = expression();
                    eat(')');
                    return e;
                }
                case '{': {
                    Node a = expression();
                    eat(',');
                    Node b = expression();
                    eat('}');
                    return new Node('{', place, a, b);
                }
                case '?': {
                    eat('(');
                    Node a = expression();
                    eat(',');
                    Node b = expression();
                    eat(',');
                    Node d = expression();
                    eat(')');
                    return new Node('?', place, a, b, d);
                }
                default:
                    return new Node(c, place, factor());
            }
        }
    }

    // ---- types: trees that never change; what variables are stands in a map

    static final class Type {
        final int kind;
        final Type[] parts;
        final int id;

        Type(int kind, Type... parts) {
            this.kind = kind;
            this.parts = parts;
            this.id = -1;
        }

        Type(long id) {
            this.kind = 0;
            this.parts = new Type[0];
            this.id = (int) id;
        }

        boolean isVariable() {
            return kind == 0;
        }
    }

    static final Type INT = new Type(100, new Type[0]);
    static final Type BOOL = new Type(101, new Type[0]);

    private static final class Definition {
        char letter;
        Node expression;
        Type type;
        Set<Integer> general = new HashSet<>();
        int signs;
    }

    private static final class Bound {
        char letter;
        boolean let;
        Type type;
        Set<Integer> general = new HashSet<>();
    }

    private static final class State {
        int modes = 7;
        List<Definition> definitions = new ArrayList<>();

        State copy() {
            State s = new State();
            s.modes = modes;
            for (Definition d : definitions) {
                Definition e = new Definition();
                e.letter = d.letter;
                e.expression = d.expression;
                e.type = d.type;
                e.general = d.general;
                e.signs = d.signs;
                s.definitions.add(e);
            }
            return s;
        }
    }

    /** One finding: what variables became in it. */
    private final class Finding {
        final List<Definition> definitions;
        final int modes;
        final Map<Integer, Type> became = new HashMap<>();
        final Type hole = fresh();
        final List<Type> parts = new ArrayList<>();
        Node asHole;
        int work;

        Finding(List<Definition> definitions, int modes) {
            this.definitions = definitions;
            this.modes = modes;
        }

        void working() {
            work++;
            if (work > 300000) {
                throw new TooMuch();
            }
        }

        Type head(Type t) {
            Type at = t;
            while (at.isVariable() && became.containsKey(at.id)) {
                working();
                at = became.get(at.id);
            }
            return at;
        }

        Type full(Type t) {
            working();
            Type at = head(t);
            if (at.parts.length == 0) {
                return at;
            }
            Type[] parts = new Type[at.parts.length];
            for (int i = 0; i < parts.length; i++) {
                parts[i] = full(at.parts[i]);
            }
            return new Type(at.kind, parts);
        }

        int nodes(Type t) {
            working();
            int n = 1;
            for (Type p : head(t).parts) {
                n += nodes(p);
            }
            return n;
        }

        void variables(Type t, Set<Integer> into) {
            working();
            Type at = head(t);
            if (at.isVariable()) {
                into.add(at.id);
            }
            for (Type p : at.parts) {
                variables(p, into);
            }
        }

        Set<Integer> weak(List<Definition> of) {
            Set<Integer> all = new LinkedHashSet<>();
            for (Definition d : of) {
                Set<Integer> mine = new LinkedHashSet<>();
                variables(d.type, mine);
                mine.removeAll(d.general);
                all.addAll(mine);
            }
            return all;
        }

        int makeOne(Type s, Type t) {
            working();
            Type a = head(s);
            Type b = head(t);
            if (a.isVariable() && b.isVariable() && a.id == b.id) {
                return 0;
            }
            if (a.isVariable() || b.isVariable()) {
                Type v = a.isVariable() ? a : b;
                Type other = a.isVariable() ? b : a;
                Set<Integer> in = new HashSet<>();
                variables(other, in);
                if (in.contains(v.id)) {
                    return -101;
                }
                became.put(v.id, other);
                return 0;
            }
            if (a.kind != b.kind) {
                return -100;
            }
            for (int i = 0; i < a.parts.length; i++) {
                int fault = makeOne(a.parts[i], b.parts[i]);
                if (fault != 0) {
                    return fault;
                }
            }
            return 0;
        }

        void mustBeOne(Type s, Type t, int place) {
            int fault = makeOne(s, t);
            if (fault != 0) {
                throw new Fault(fault, place);
            }
        }

        Type instance(Type t, Set<Integer> general) {
            return instance(full(t), general, new HashMap<>());
        }

        private Type instance(Type t, Set<Integer> general, Map<Integer, Type> anew) {
            if (t.isVariable()) {
                return general.contains(t.id) ? anew.computeIfAbsent(t.id, k -> fresh()) : t;
            }
            Type[] parts = new Type[t.parts.length];
            for (int i = 0; i < parts.length; i++) {
                parts[i] = instance(t.parts[i], general, anew);
            }
            return new Type(t.kind, parts);
        }

        Type find(Node e, List<Bound> around) {
            Type t = found(e, around);
            if (nodes(t) > 24) {
                throw new Fault(-104, e.place);
            }
            parts.add(t);
            return t;
        }

        Type found(Node e, List<Bound> around) {
            if (e == asHole || e.kind == '_') {
                return hole;
            }
            Type v;
            Type a;
            Type b;
            switch (e.kind) {
                case 'v':
                    return letter(e, around);
                case 'n':
                    return INT;
                case 't':
                    return BOOL;
                case '%':
                    v = fresh();
                    return new Type(102, v, find(e.parts[0], with(around, e.letter, v)));
                case '$':
                    v = fresh();
                    a = find(e.parts[0], with(around, e.letter, v));
                    mustBeOne(v, a, e.place);
                    return v;
                case '[':
                    return let(e, around);
                case '{':
                    a = find(e.parts[0], around);
                    return new Type(103, a, find(e.parts[1], around));
                case '?':
                    mustBeOne(find(e.parts[0], around), BOOL, e.place);
                    a = find(e.parts[1], around);
                    b = find(e.parts[2], around);
                    mustBeOne(a, b, e.place);
                    return a;
                case '+':
                case '-':
                case '<':
                case '=':
                    mustBeOne(find(e.parts[0], around), INT, e.place);
                    mustBeOne(find(e.parts[1], around), INT, e.place);
                    return e.kind == '+' || e.kind == '-' ? INT : BOOL;
                case '~':
                    a = find(e.parts[0], around);
                    b = find(e.parts[1], around);
                    mustBeOne(a, new Type(104, b), e.place);
                    return b;
                case '&':
                case '|':
                    v = fresh();
                    b = fresh();
                    mustBeOne(find(e.parts[0], around), new Type(103, v, b), e.place);
                    return e.kind == '&' ? v : b;
                case '@':
                    return new Type(104, find(e.parts[0], around));
                case '!':
                    v = fresh();
                    mustBeOne(find(e.parts[0], around), new Type(104, v), e.place);
                    return v;
                case 'A':
                    a = find(e.parts[0], around);
                    b = find(e.parts[1], around);
                    v = fresh();
                    mustBeOne(a, new Type(102, b, v), e.place);
                    return v;
                default:
                    throw new IllegalStateException("kind " + e.kind);
            }
        }

        List<Bound> with(List<Bound> around, char letter, Type type) {
            Bound b = new Bound();
            b.letter = letter;
            b.type = type;
            List<Bound> more = new ArrayList<>(around);
            more.add(b);
            return more;
        }

        Type letter(Node e, List<Bound> around) {
            for (int i = around.size() - 1; i >= 0; i--) {
                Bound b = around.get(i);
                if (b.letter == e.letter) {
                    return b.let ? instance(b.type, b.general) : b.type;
                }
            }
            for (Definition d : definitions) {
                if (d.letter == e.letter) {
                    return instance(d.type, d.general);
                }
            }
            throw new Fault(-102, e.place);
        }

        Type let(Node e, List<Bound> around) {
            Type a = find(e.parts[0], around);
            Bound b = new Bound();
            b.letter = e.letter;
            b.let = true;
            b.type = a;
            boolean value = e.parts[0] != asHole && holeless(e.parts[0]);
            if ((modes & 2) != 0 && (value || (modes & 1) == 0)) {
                variables(a, b.general);
                for (Bound other : around) {
                    Set<Integer> not = new HashSet<>();
                    variables(other.type, not);
                    not.removeAll(other.general);
                    b.general.removeAll(not);
                }
                Set<Integer> not = new HashSet<>();
                variables(hole, not);
                b.general.removeAll(not);
                b.general.removeAll(weak(definitions));
            }
            List<Bound> more = new ArrayList<>(around);
            more.add(b);
            return find(e.parts[1], more);
        }

        // a VALUE in which no HOLE stands where a value is wanted
        boolean holeless(Node e) {
            if (e == asHole) {
                return false;
            }
            if (e.kind == '{') {
                return holeless(e.parts[0]) && holeless(e.parts[1]);
            }
            return e.isValue();
        }

        List<Long> row(Type t, Set<Integer> weak) {
            List<Long> told = new ArrayList<>();
            Map<Integer, Long> names = new LinkedHashMap<>();
            long n = 1000;
            for (int id : weak) {
                names.put(id, n);
                n++;
            }
            tell(full(t), names, new long[1], told);
            return told;
        }

        void tell(Type t, Map<Integer, Long> names, long[] next, List<Long> told) {
            if (t.isVariable()) {
                if (!names.containsKey(t.id)) {
                    names.put(t.id, next[0]);
                    next[0]++;
                }
                told.add(names.get(t.id));
                return;
            }
            told.add((long) t.kind);
            for (Type p : t.parts) {
                tell(p, names, next, told);
            }
        }
    }

    // ---- the object

    private int nextVariable;
    private String text = "";
    private State state = new State();
    private final List<State> past = new ArrayList<>();
    private List<Long> row = new ArrayList<>();
    private final List<int[]> heardOf = new ArrayList<>();

    private Type fresh() {
        nextVariable++;
        return new Type((long) nextVariable);
    }

    private Finding finding() {
        return new Finding(state.definitions, state.modes);
    }

    private Definition named(int x) {
        for (Definition d : state.definitions) {
            if (d.letter - 'a' == x) {
                return d;
            }
        }
        return null;
    }

    private List<Long> rowOf(State s, Definition d) {
        Finding f = new Finding(s.definitions, s.modes);
        return f.row(d.type, f.weak(s.definitions));
    }

    private void tells(long... numbers) {
        row = new ArrayList<>();
        for (long n : numbers) {
            row.add(n);
        }
    }

    private int faulty(Fault f) {
        tells(f.place);
        return f.code;
    }

    int sign(int v) {
        if (text.length() + 4 > 80) {
            return -1;
        }
        for (int i = 3; i >= 0; i--) {
            text += (char) (v >> (8 * i) & 0xff);
        }
        return text.length();
    }

    boolean end(int n) {
        if (n < 0 || n > text.length()) {
            return false;
        }
        text = text.substring(0, n);
        return true;
    }

    private String taken() {
        String t = text;
        text = "";
        return t;
    }

    /** Puts a definition behind the others of a state: 0, or the fault; the state is left as it was then. */
    private int adds(State s, char letter, Node e, int signs) {
        Finding f = new Finding(s.definitions, s.modes);
        Type t = f.find(e, new ArrayList<>());
        Definition d = new Definition();
        d.letter = letter;
        d.expression = e;
        d.type = f.full(t);
        d.signs = signs;
        if ((s.modes & 4) != 0 && (e.isValue() || (s.modes & 1) == 0)) {
            f.variables(t, d.general);
            d.general.removeAll(f.weak(s.definitions));
        }
        for (Definition other : s.definitions) {
            if (f.nodes(other.type) > 24) {
                return -105;
            }
        }
        for (Definition other : s.definitions) {
            other.type = f.full(other.type);
        }
        s.definitions.add(d);
        return 0;
    }

    int defines() {
        String t = taken();
        Node e;
        try {
            Parser p = new Parser(t, 0, false);
            if (p.next() < 'a' || p.next() > 'j') {
                throw p.wrong();
            }
            p.at++;
            p.eat('=');
            e = p.whole();
        } catch (Syntax s) {
            return -1 - s.at;
        }
        if (named(t.charAt(0) - 'a') != null) {
            return -103;
        }
        State after = state.copy();
        try {
            int fault = adds(after, t.charAt(0), e, t.length() - 2);
            if (fault != 0) {
                return fault;
            }
        } catch (Fault f) {
            return faulty(f);
        }
        past.add(state);
        if (past.size() > 24) {
            past.remove(0);
        }
        state = after;
        row = rowOf(state, named(t.charAt(0) - 'a'));
        return row.size();
    }

    int modes(int v) {
        if (v < 0 || v > 7) {
            return -1;
        }
        if (v == state.modes) {
            return -2;
        }
        past.add(state.copy());
        if (past.size() > 24) {
            past.remove(0);
        }
        int was = state.modes;
        state.modes = v;
        return 10 + was;
    }

    int undo() {
        if (past.isEmpty()) {
            return -1;
        }
        state = past.remove(past.size() - 1);
        return past.size();
    }

    private int measure(Definition d, int what) {
        Finding f = finding();
        Set<Integer> all = new HashSet<>();
        f.variables(d.type, all);
        switch (what) {
            case 0:
                return state.definitions.indexOf(d);
            case 1:
                return f.nodes(d.type);
            case 2: {
                all.retainAll(d.general);
                return all.size();
            }
            case 3: {
                all.removeAll(d.general);
                return all.size();
            }
            case 4: {
                int n = 0;
                for (Type t = d.type; t.kind == 102; t = t.parts[1]) {
                    n++;
                }
                return n;
            }
            case 5:
                return d.expression.isValue() ? 1 : 0;
            case 6:
                return d.signs;
            default:
                throw new NoSuchElementException();
        }
    }

    int definition(int x, int what) {
        Definition d = named(x);
        if (d == null) {
            throw new NoSuchElementException();
        }
        return measure(d, what);
    }

    int scheme(int x) {
        Definition d = named(x);
        if (d == null) {
            return -1;
        }
        row = rowOf(state, d);
        return row.size();
    }

    private int typeOf(String t) {
        try {
            Node e = new Parser(t, 0, false).whole();
            Finding f = finding();
            Type found = f.find(e, new ArrayList<>());
            row = f.row(found, f.weak(state.definitions));
            return row.size();
        } catch (Syntax s) {
            return -1 - s.at;
        } catch (Fault f) {
            return faulty(f);
        }
    }

    int type() {
        return typeOf(taken());
    }

    private static void leaves(Node e, List<Node> into) {
        if (e.kind == 'v' || e.kind == 'n' || e.kind == 't') {
            into.add(e);
        }
        for (Node p : e.parts) {
            leaves(p, into);
        }
    }

    private boolean findable(Node e, Node asHole) {
        Finding f = finding();
        f.asHole = asHole;
        try {
            f.find(e, new ArrayList<>());
            return true;
        } catch (Fault fault) {
            return false;
        }
    }

    int blames() {
        Node e;
        try {
            e = new Parser(taken(), 0, false).whole();
        } catch (Syntax s) {
            return -1 - s.at;
        }
        if (findable(e, null)) {
            return -2;
        }
        List<Node> all = new ArrayList<>();
        leaves(e, all);
        List<Long> places = new ArrayList<>();
        for (Node leaf : all) {
            if (findable(e, leaf)) {
                places.add((long) leaf.place);
            }
        }
        row = new ArrayList<>(places.subList(0, Math.min(14, places.size())));
        return places.size();
    }

    private static boolean hasHole(Node e) {
        boolean has = e.kind == '_';
        for (Node p : e.parts) {
            has |= hasHole(p);
        }
        return has;
    }

    int hole() {
        Node e;
        Finding f = finding();
        try {
            e = new Parser(taken(), 0, true).whole();
            f.find(e, new ArrayList<>());
        } catch (Syntax s) {
            return -1 - s.at;
        } catch (Fault fault) {
            return faulty(fault);
        }
        if (!hasHole(e)) {
            row = new ArrayList<>();
            return 0;
        }
        if (f.nodes(f.hole) > 24) {
            return -105;
        }
        long bits = 0;
        for (Definition d : state.definitions) {
            Finding again = finding();
            again.became.putAll(f.became);
            if (again.makeOne(again.instance(d.type, d.general), f.hole) == 0) {
                bits |= 1L << (d.letter - 'a');
            }
        }
        List<Long> told = f.row(f.hole, f.weak(state.definitions));
        tells(bits);
        row.addAll(told);
        return told.size();
    }

    int parts() {
        Finding f = finding();
        try {
            f.find(new Parser(taken(), 0, false).whole(), new ArrayList<>());
        } catch (Syntax s) {
            return -1 - s.at;
        } catch (Fault fault) {
            return faulty(fault);
        }
        List<Long> told = new ArrayList<>();
        for (Type t : f.parts) {
            if (f.nodes(t) > 24) {
                return -105;
            }
            if (told.size() < 14) {
                told.add((long) f.nodes(t));
            }
        }
        row = told;
        return f.parts.size();
    }

    private boolean becomes(Type x, Type y, Set<Integer> general, Map<Integer, Type> by) {
        if (x.isVariable() && general.contains(x.id)) {
            if (!by.containsKey(x.id)) {
                by.put(x.id, y);
                return true;
            }
            return same(by.get(x.id), y);
        }
        if (x.kind != y.kind || x.id != y.id) {
            return false;
        }
        for (int i = 0; i < x.parts.length; i++) {
            if (!becomes(x.parts[i], y.parts[i], general, by)) {
                return false;
            }
        }
        return true;
    }

    private boolean same(Type x, Type y) {
        if (x.kind != y.kind || x.id != y.id) {
            return false;
        }
        for (int i = 0; i < x.parts.length; i++) {
            if (!same(x.parts[i], y.parts[i])) {
                return false;
            }
        }
        return true;
    }

    int general(int x, int y) {
        Definition a = named(x);
        Definition b = named(y);
        if (a == null || b == null) {
            return -1;
        }
        return becomes(a.type, b.type, a.general, new HashMap<>()) ? 1 : 0;
    }

    int one(int x, int y) {
        Definition a = named(x);
        Definition b = named(y);
        if (a == null || b == null) {
            return -1;
        }
        Finding f = finding();
        Type s = f.instance(a.type, a.general);
        int fault = f.makeOne(s, f.instance(b.type, b.general));
        if (fault != 0) {
            return fault;
        }
        if (f.nodes(s) > 24) {
            return -105;
        }
        row = f.row(s, f.weak(state.definitions));
        return row.size();
    }

    private static String letter(int x) {
        return String.valueOf((char) ('a' + x));
    }

    int applies(int x, int y) {
        return named(x) == null || named(y) == null ? -1 : typeOf(letter(x) + letter(y));
    }

    int behind(int x, int y) {
        return named(x) == null || named(y) == null ? -1 : typeOf("%z." + letter(x) + "(" + letter(y) + "z)");
    }

    int flips(int x) {
        return named(x) == null ? -1 : typeOf("%y.%z." + letter(x) + "zy");
    }

    /** Whether definitions, put as an expression h(g(f x)), lead to y. */
    private boolean leads(int[] way, int x, int y) {
        String t = letter(x);
        for (int w : way) {
            t = letter(w) + "(" + t + ")";
        }
        Finding f = finding();
        try {
            Type found = f.find(new Parser(t, 0, false).whole(), new ArrayList<>());
            Definition d = named(y);
            return f.makeOne(found, f.instance(d.type, d.general)) == 0;
        } catch (Fault fault) {
            return false;
        }
    }

    int ways(int x, int y) {
        if (named(x) == null || named(y) == null) {
            return -1;
        }
        for (int n = 0; n <= 3; n++) {
            int all = (int) Math.pow(10, n);
            for (int k = 0; k < all; k++) {
                int[] way = new int[n];
                boolean there = true;
                for (int i = n - 1, rest = k; i >= 0; i--, rest /= 10) {
                    way[i] = rest % 10;
                    there &= named(way[i]) != null;
                }
                if (there && leads(way, x, y)) {
                    tells(Arrays.stream(way).asLongStream().toArray());
                    return n;
                }
            }
        }
        return -2;
    }

    int sorts() {
        Map<List<Long>, List<Definition>> by = new LinkedHashMap<>();
        for (Definition d : state.definitions) {
            by.computeIfAbsent(rowOf(state, d), k -> new ArrayList<>()).add(d);
        }
        List<Definition> most = new ArrayList<>();
        for (List<Definition> those : by.values()) {
            if (those.size() > most.size()) {
                most = those;
            }
        }
        row = new ArrayList<>();
        if (!most.isEmpty()) {
            tells(most.size(), most.get(0).letter - 'a');
        }
        return by.size();
    }

    int largest() {
        Definition best = null;
        for (Definition d : state.definitions) {
            if (best == null || measure(d, 1) > measure(best, 1)) {
                best = d;
            }
        }
        if (best == null) {
            return -2;
        }
        tells(measure(best, 1), finding().weak(state.definitions).size());
        return best.letter - 'a';
    }

    // ---- what they come to

    private static final class Value {
        int kind;
        int number;
        Node function;
        Around around;
        Value first;
        Value second;

        Value(int kind) {
            this.kind = kind;
        }
    }

    private static final class Around {
        final char letter;
        final Value value;
        final Node itself;
        final Around outer;

        Around(char letter, Value value, Node itself, Around outer) {
            this.letter = letter;
            this.value = value;
            this.itself = itself;
            this.outer = outer;
        }
    }

    private int steps;

    private void step() {
        steps++;
        if (steps == 101) {
            throw new Stop(-200);
        }
    }

    private static void mustBe(boolean so) {
        if (!so) {
            throw new Stop(-201);
        }
    }

    private static Value number(int kind, int n) {
        Value v = new Value(kind);
        v.number = n;
        return v;
    }

    private Value come(Node e, Around around) {
        Value a;
        Value b;
        switch (e.kind) {
            case 'v':
                return asked(e.letter, around);
            case 'n':
                return number(0, e.number);
            case 't':
                return number(1, e.number);
            case '%':
                a = new Value(2);
                a.function = e;
                a.around = around;
                return a;
            case '$':
                return come(e.parts[0], new Around(e.letter, null, e, around));
            case '[':
                a = come(e.parts[0], around);
                return come(e.parts[1], new Around(e.letter, a, null, around));
            case '?':
                a = come(e.parts[0], around);
                mustBe(a.kind == 1);
                return come(e.parts[a.number == 1 ? 1 : 2], around);
            case '&':
            case '|':
                a = come(e.parts[0], around);
                mustBe(a.kind == 3);
                return e.kind == '&' ? a.first : a.second;
            case '@':
                a = come(e.parts[0], around);
                b = new Value(4);
                b.first = a;
                return b;
            case '!':
                a = come(e.parts[0], around);
                mustBe(a.kind == 4);
                return a.first;
            default:
                a = come(e.parts[0], around);
                b = come(e.parts[1], around);
                return both(e, a, b);
        }
    }

    private Value both(Node e, Value a, Value b) {
        switch (e.kind) {
            case '{': {
                Value v = new Value(3);
                v.first = a;
                v.second = b;
                return v;
            }
            case '~':
                mustBe(a.kind == 4);
                a.first = b;
                return b;
            case 'A':
                mustBe(a.kind == 2);
                step();
                return come(a.function.parts[0], new Around(a.function.letter, b, null, a.around));
            default:
                mustBe(a.kind == 0 && b.kind == 0);
                return switch (e.kind) {
                    case '+' -> number(0, a.number + b.number);
                    case '-' -> number(0, a.number - b.number);
                    case '<' -> number(1, a.number < b.number ? 1 : 0);
                    default -> number(1, a.number == b.number ? 1 : 0);
                };
        }
    }

    private Value asked(char letter, Around around) {
        for (Around at = around; at != null; at = at.outer) {
            if (at.letter == letter) {
                if (at.itself == null) {
                    return at.value;
                }
                step();
                return come(at.itself, at.outer);
            }
        }
        step();
        return come(named(letter - 'a').expression, null);
    }

    private static void tellValue(Value v, List<Long> told) {
        if (told.size() >= 12) {
            return;
        }
        told.add((long) v.kind);
        if (v.kind <= 1 && told.size() < 12) {
            told.add((long) v.number);
        }
        if (v.kind >= 3) {
            tellValue(v.first, told);
        }
        if (v.kind == 3) {
            tellValue(v.second, told);
        }
    }

    int comes() {
        Node e;
        try {
            e = new Parser(taken(), 0, false).whole();
            finding().find(e, new ArrayList<>());
        } catch (Syntax s) {
            return -1 - s.at;
        } catch (Fault fault) {
            return faulty(fault);
        }
        steps = 0;
        try {
            Value v = come(e, null);
            List<Long> told = new ArrayList<>();
            tellValue(v, told);
            tells(steps);
            row.addAll(told);
            return v.kind;
        } catch (Stop s) {
            return s.code;
        }
    }

    private List<Long> given;

    private int give(int x, int v) {
        if (named(x) == null) {
            return -1;
        }
        Node f = new Node('v', 0);
        f.letter = (char) ('a' + x);
        Node n = new Node('n', 1);
        n.number = v;
        Node e = new Node('A', 0, f, n);
        Finding finding = finding();
        try {
            if (finding.head(finding.find(e, new ArrayList<>())).kind != 100) {
                return -2;
            }
        } catch (Fault fault) {
            return -2;
        }
        steps = 0;
        try {
            Value came = come(e, null);
            mustBe(came.kind == 0);
            given = List.of((long) came.number, (long) steps);
            return 0;
        } catch (Stop s) {
            return s.code;
        }
    }

    int gives(int x, int v) {
        int answer = give(x, v);
        if (answer == 0) {
            row = given;
        }
        return answer;
    }

    int finds(int x, int w) {
        if (named(x) == null) {
            return -1;
        }
        List<Integer> such = new ArrayList<>();
        for (int v = 0; v <= 12; v++) {
            if (give(x, v) == 0 && given.get(0) == w) {
                such.add(v);
            }
        }
        if (such.isEmpty()) {
            return -2;
        }
        tells(such.size());
        return such.get(0);
    }

    // ---- which definition it was

    private static final int[] HIGHEST = {5, 24, 9, 1, 9};

    int heard(int what, int v) {
        if (what < 0 || what > 4 || v < 0 || v > HIGHEST[what] || heardOf.size() == 12) {
            return -1;
        }
        heardOf.add(new int[] {what, v});
        return heardOf.size();
    }

    int forget() {
        int n = heardOf.size();
        heardOf.clear();
        return n;
    }

    private boolean holds(Definition d, int what, int v) {
        return switch (what) {
            case 0 -> (d.type.isVariable() ? 5 : d.type.kind - 100) == v;
            case 1 -> measure(d, 1) >= v;
            case 2 -> measure(d, 2) == v;
            case 3 -> measure(d, 5) == v;
            default -> measure(d, 4) == v;
        };
    }

    private List<Definition> fitting() {
        List<Definition> those = new ArrayList<>();
        for (Definition d : state.definitions) {
            if (heardOf.stream().allMatch(h -> holds(d, h[0], h[1]))) {
                those.add(d);
            }
        }
        return those;
    }

    int fits() {
        int bits = 0;
        for (Definition d : fitting()) {
            bits |= 1 << (d.letter - 'a');
        }
        tells(Integer.bitCount(bits));
        return bits;
    }

    int asks() {
        List<Definition> those = fitting();
        if (those.isEmpty()) {
            return -2;
        }
        int best = -1;
        int least = Integer.MAX_VALUE;
        for (int what = 0; what <= 4; what++) {
            for (int v = 0; v <= HIGHEST[what]; v++) {
                int yes = 0;
                for (Definition d : those) {
                    if (holds(d, what, v)) {
                        yes++;
                    }
                }
                int most = Math.max(yes, those.size() - yes);
                if (most < least) {
                    least = most;
                    best = 100 * what + v;
                }
            }
        }
        tells(least);
        return best;
    }

    // ---- other modes

    int law(int v) {
        if (v < 0 || v > 7) {
            return -1;
        }
        State other = new State();
        other.modes = v;
        int bits = 0;
        for (Definition d : state.definitions) {
            State after = other.copy();
            boolean in;
            try {
                in = adds(after, d.letter, d.expression, d.signs) == 0;
            } catch (Fault f) {
                in = false;
            }
            if (in) {
                other = after;
            } else {
                bits |= 1 << (d.letter - 'a');
            }
        }
        int changed = 0;
        for (Definition d : other.definitions) {
            if (!rowOf(other, d).equals(rowOf(state, named(d.letter - 'a')))) {
                changed++;
            }
        }
        tells(bits, changed);
        return Integer.bitCount(bits);
    }

    int count(int what) {
        int bits = 0;
        int nodes = 0;
        for (Definition d : state.definitions) {
            bits |= 1 << (d.letter - 'a');
            nodes += measure(d, 1);
        }
        return switch (what) {
            case 0 -> bits;
            case 1 -> state.definitions.size();
            case 2 -> state.modes;
            case 3 -> finding().weak(state.definitions).size();
            case 4 -> nodes;
            case 5 -> heardOf.size();
            case 6 -> past.size();
            case 7 -> row.size();
            case 8 -> text.length();
            default -> -1;
        };
    }

    long row(int i) {
        if (i < 0 || i >= row.size()) {
            throw new NoSuchElementException();
        }
        return row.get(i);
    }
}
