import java.util.NoSuchElementException;

/** Finds the types of little expressions and keeps definitions; README.md says how it is used. */
public final class TypeLevels {
    public static final int NONE = -1;

    private static final int TEXT_ROOM = 80;
    private static final int SIGNS = 76;
    private static final int OPEN = 8;
    private static final int LETTERS = 10;
    private static final int NODES = 24;
    private static final int ALL_MODES = 7;
    private static final int ONLY_VALUES = 1;
    private static final int LETS_GENERAL = 2;
    private static final int DEFINITIONS_GENERAL = 4;

    private static final int INT = 100;
    private static final int BOOL = 101;
    private static final int FUN = 102;
    private static final int PAIR = 103;
    private static final int CELL = 104;
    private static final int VARIABLE = 0;
    private static final int WEAK = 1000;

    private static final int NOTHING = -2;
    private static final int UNLIKE = -100;
    private static final int INSIDE = -101;
    private static final int UNKNOWN = -102;
    private static final int KNOWN = -103;
    private static final int LARGE = -104;
    private static final int TOO_LARGE = -105;
    private static final int TOO_LONG = -200;
    private static final int WRONG = -201;

    private static final int TOLD_FIRST = 14;
    private static final int TOLD_OF_VALUE = 12;
    private static final int TRIED = 12;
    // far above what any walk over the rooms below can need
    private static final int TURNS = 1000000;

    private final int[] text;
    private int length;
    private int modesNow;
    private final int[] asked;
    private final Told told;
    private final Code code;
    private final Reader reader;
    private final Store store;
    private final Table table;
    private final Table trial;
    private final Finder finder;
    private final Machine machine;
    private final Past past;
    private final Heard heardOf;
    private final Among among;

    public TypeLevels() {
        text = new int[TEXT_ROOM];
        length = 0;
        modesNow = ALL_MODES;
        asked = new int[TEXT_ROOM];
        told = new Told();
        code = new Code();
        reader = new Reader(code);
        store = new Store();
        table = new Table(store);
        trial = new Table(store);
        finder = new Finder(store, code, table);
        machine = new Machine(code);
        past = new Past();
        heardOf = new Heard();
        among = new Among(store, table);
    }

    // ---- texts, definitions

    public int sign(int v) {
        if (length > TEXT_ROOM - 4) {
            return NONE;
        }
        for (int shift = 24; shift >= 0; shift -= 8) {
            text[length] = (v >>> shift) & 255;
            length++;
        }
        return length;
    }

    public boolean end(int n) {
        if (n < 0 || n > length) {
            return false;
        }
        length = n;
        return true;
    }

    public int defines() {
        int signs = length - 2;
        int refused = readDefinition();
        if (refused != NONE) {
            return -1 - refused;
        }
        int letter = text[0] - 'a';
        if (table.knows(letter)) {
            return KNOWN;
        }
        int fault = findIn(Code.TEXT);
        if (fault != 0) {
            return fault;
        }
        boolean free = mayBeGeneral(modesNow, DEFINITIONS_GENERAL, finder.isValue());
        if (!table.prepare(finder.typeFound(), free)) {
            return TOO_LARGE;
        }
        past.keep(table, modesNow);
        table.commit(letter, finder.isValue(), signs);
        code.copy(Code.TEXT, letter);
        return tellDefinition(letter);
    }

    public int modes(int v) {
        if (v < 0 || v > ALL_MODES) {
            return NONE;
        }
        if (v == modesNow) {
            return NOTHING;
        }
        past.keep(table, modesNow);
        int before = modesNow;
        modesNow = v;
        return 10 + before;
    }

    public int undo() {
        if (past.size() == 0) {
            return NONE;
        }
        modesNow = past.back(table);
        return past.size();
    }

    public int definition(int x, int what) throws NoSuchElementException {
        int at = table.placeOf(x);
        if (at < 0 || what < 0 || what > 6) {
            throw new NoSuchElementException("no such definition, or nothing such of it");
        }
        switch (what) {
            case 0:
                return at;
            case 1:
                return table.nodesOf(at);
            case 2:
                return table.generalsOf(at);
            case 3:
                return table.weakOf(at);
            case 4:
                return table.throughsOf(at);
            case 5:
                return table.valueOf(at);
            default:
                return table.signsOf(at);
        }
    }

    public int scheme(int x) {
        return table.knows(x) ? tellDefinition(x) : NONE;
    }

    // ---- types of expressions

    public int type() {
        int refused = readText(false);
        if (refused != NONE) {
            return -1 - refused;
        }
        return typeOf(Code.TEXT);
    }

    public int blames() {
        int refused = readText(false);
        if (refused != NONE) {
            return -1 - refused;
        }
        if (finder.find(table, Code.TEXT, modesNow, NONE) == 0) {
            return NOTHING;
        }
        int from = code.start(Code.TEXT);
        int to = from + code.sizeOf(Code.TEXT);
        int blamed = 0;
        told.clear();
        for (int at = from; at < to; at++) {
            if (code.isSign(at) && finder.find(table, Code.TEXT, modesNow, at) == 0) {
                if (blamed < TOLD_FIRST) {
                    told.add(code.placeOf(at));
                }
                blamed++;
            }
        }
        return blamed;
    }

    public int hole() {
        int refused = readText(true);
        if (refused != NONE) {
            return -1 - refused;
        }
        int fault = findIn(Code.TEXT);
        if (fault != 0) {
            return fault;
        }
        if (!code.hasHole(Code.TEXT)) {
            told.clear();
            return 0;
        }
        int sought = finder.holeType();
        if (store.nodesOf(sought) > NODES) {
            return TOO_LARGE;
        }
        int fitting = among.fitting(sought);
        told.clear();
        told.add(fitting);
        return tellType(sought);
    }

    public int parts() {
        int refused = readText(false);
        if (refused != NONE) {
            return -1 - refused;
        }
        int fault = findIn(Code.TEXT);
        if (fault != 0) {
            return fault;
        }
        int all = finder.partsFound();
        for (int i = 0; i < all; i++) {
            if (store.nodesOf(finder.partFound(i)) > NODES) {
                return TOO_LARGE;
            }
        }
        told.clear();
        for (int i = 0; i < all && i < TOLD_FIRST; i++) {
            told.add(store.nodesOf(finder.partFound(i)));
        }
        return all;
    }

    // ---- definitions among themselves

    public int general(int x, int y) {
        if (!table.knows(x) || !table.knows(y)) {
            return NONE;
        }
        return among.covers(table.placeOf(x), table.placeOf(y)) ? 1 : 0;
    }

    public int one(int x, int y) {
        if (!table.knows(x) || !table.knows(y)) {
            return NONE;
        }
        store.renew(table.weakTotal());
        int both = table.instance(x);
        int fault = store.makeOne(both, table.instance(y));
        if (fault != 0) {
            return fault;
        }
        if (store.nodesOf(both) > NODES) {
            return TOO_LARGE;
        }
        told.clear();
        return tellType(both);
    }

    public int applies(int x, int y) {
        if (!table.knows(x) || !table.knows(y)) {
            return NONE;
        }
        asked[0] = 'a' + x;
        asked[1] = 'a' + y;
        return typeOf(readAsked(2));
    }

    public int behind(int x, int y) {
        if (!table.knows(x) || !table.knows(y)) {
            return NONE;
        }
        asked[0] = '%';
        asked[1] = 'z';
        asked[2] = '.';
        asked[3] = 'a' + x;
        asked[4] = '(';
        asked[5] = 'a' + y;
        asked[6] = 'z';
        asked[7] = ')';
        return typeOf(readAsked(8));
    }

    public int flips(int x) {
        if (!table.knows(x)) {
            return NONE;
        }
        asked[0] = '%';
        asked[1] = 'y';
        asked[2] = '.';
        asked[3] = '%';
        asked[4] = 'z';
        asked[5] = '.';
        asked[6] = 'a' + x;
        asked[7] = 'z';
        asked[8] = 'y';
        return typeOf(readAsked(9));
    }

    public int ways(int x, int y) {
        if (!table.knows(x) || !table.knows(y)) {
            return NONE;
        }
        int fewest = among.fewest(x, y);
        if (fewest < 0) {
            return NOTHING;
        }
        told.clear();
        for (int i = 0; i < fewest; i++) {
            told.add(among.onTheWay(i));
        }
        return fewest;
    }

    public int sorts() {
        int all = table.size();
        int kinds = 0;
        int most = 0;
        int first = 0;
        for (int at = 0; at < all; at++) {
            int like = among.alike(at);
            if (like > 0) {
                kinds++;
            }
            if (like > most) {
                most = like;
                first = table.letterAt(at);
            }
        }
        told.clear();
        if (all > 0) {
            told.add(most);
            told.add(first);
        }
        return kinds;
    }

    public int largest() {
        int all = table.size();
        if (all == 0) {
            return NOTHING;
        }
        int best = 0;
        for (int at = 1; at < all; at++) {
            if (table.nodesOf(at) > table.nodesOf(best)) {
                best = at;
            }
        }
        told.clear();
        told.add(table.nodesOf(best));
        told.add(table.weakTotal());
        return table.letterAt(best);
    }

    // ---- what they come to

    public int comes() {
        int refused = readText(false);
        if (refused != NONE) {
            return -1 - refused;
        }
        int fault = findIn(Code.TEXT);
        if (fault != 0) {
            return fault;
        }
        int ended = machine.run(Code.TEXT);
        if (ended != 0) {
            return ended;
        }
        told.clear();
        told.add(machine.stepsDone());
        machine.tell(told);
        return machine.kindCome();
    }

    public int gives(int x, int v) {
        if (!table.knows(x)) {
            return NONE;
        }
        if (!givesInts(x)) {
            return NOTHING;
        }
        int ended = put(x, v);
        if (ended != 0) {
            return ended;
        }
        told.clear();
        told.add(machine.intCome());
        told.add(machine.stepsDone());
        return 0;
    }

    public int finds(int x, int w) {
        if (!table.knows(x)) {
            return NONE;
        }
        if (!givesInts(x)) {
            return NOTHING;
        }
        int least = NOTHING;
        int such = 0;
        for (int v = TRIED; v >= 0; v--) {
            if (put(x, v) == 0 && machine.intCome() == w) {
                least = v;
                such++;
            }
        }
        if (such > 0) {
            told.clear();
            told.add(such);
        }
        return least;
    }

    // ---- which definition it was

    public int heard(int what, int v) {
        return heardOf.add(what, v) ? heardOf.size() : NONE;
    }

    public int forget() {
        int before = heardOf.size();
        heardOf.clear();
        return before;
    }

    public int fits() {
        int bits = heardOf.fitting(table);
        told.clear();
        told.add(Integer.bitCount(bits));
        return bits;
    }

    public int asks() {
        int bits = heardOf.fitting(table);
        if (bits == 0) {
            return NOTHING;
        }
        int best = NOTHING;
        int least = LETTERS + 1;
        for (int what = 0; what < Heard.KINDS; what++) {
            for (int v = 0; v <= Heard.highest(what); v++) {
                int left = heardOf.leftAtMost(table, bits, what, v);
                if (left < least) {
                    least = left;
                    best = 100 * what + v;
                }
            }
        }
        told.clear();
        told.add(least);
        return best;
    }

    // ---- other modes

    public int law(int v) {
        if (v < 0 || v > ALL_MODES) {
            return NONE;
        }
        trial.clear();
        int bits = 0;
        for (int at = 0; at < table.size(); at++) {
            int letter = table.letterAt(at);
            if (!triedAnew(letter, v)) {
                bits |= 1 << letter;
            }
        }
        int others = 0;
        for (int at = 0; at < trial.size(); at++) {
            if (!trial.sameRow(at, table, table.placeOf(trial.letterAt(at)))) {
                others++;
            }
        }
        told.clear();
        told.add(bits);
        told.add(others);
        return table.size() - trial.size();
    }

    public int count(int what) {
        switch (what) {
            case 0:
                return table.bits();
            case 1:
                return table.size();
            case 2:
                return modesNow;
            case 3:
                return table.weakTotal();
            case 4:
                return table.allNodes();
            case 5:
                return heardOf.size();
            case 6:
                return past.size();
            case 7:
                return told.size();
            case 8:
                return length;
            default:
                return NONE;
        }
    }

    public long row(int i) throws NoSuchElementException {
        if (i < 0 || i >= told.size()) {
            throw new NoSuchElementException("the row has no such number");
        }
        return told.at(i);
    }

    // ---- what several calls need

    private static boolean mayBeGeneral(int modes, int which, boolean value) {
        return (modes & which) != 0 && (value || (modes & ONLY_VALUES) == 0);
    }

    /** Reads THE TEXT, which is empty afterwards: where it can't stand, or NONE. */
    private int readText(boolean holes) {
        int refused = reader.read(text, length, 0, Code.TEXT, holes);
        length = 0;
        return refused;
    }

    private int readDefinition() {
        int signs = length;
        length = 0;
        if (signs < 1 || text[0] < 'a' || text[0] >= 'a' + LETTERS) {
            return 0;
        }
        if (signs < 2 || text[1] != '=') {
            return 1;
        }
        return reader.read(text, signs, 2, Code.TEXT, false);
    }

    /** Finds the type of what a slot holds: 0, or the FAULT, which the ROW then tells of. */
    private int findIn(int slot) {
        int fault = finder.find(table, slot, modesNow, NONE);
        if (fault != 0) {
            tellFault();
        }
        return fault;
    }

    private int typeOf(int slot) {
        int fault = finder.find(table, slot, modesNow, NONE);
        if (fault != 0) {
            tellFault();
            return fault;
        }
        told.clear();
        return tellType(finder.typeFound());
    }

    private void tellFault() {
        told.clear();
        told.add(finder.faultPlace());
    }

    /** Reads the signs that were put there to be asked: the slot that holds them. */
    private int readAsked(int signs) {
        reader.read(asked, signs, 0, Code.ASKED, false);
        return Code.ASKED;
    }

    /** Tells a type behind what the ROW has: how many nodes. */
    private int tellType(int node) {
        store.labelWeak(table.weakTotal());
        return told.addType(store, node);
    }

    private int tellDefinition(int letter) {
        int at = table.placeOf(letter);
        int nodes = table.nodesOf(at);
        told.clear();
        for (int i = 0; i < nodes; i++) {
            told.add(table.codeAt(at, i));
        }
        return nodes;
    }

    private boolean givesInts(int x) {
        code.ask(x, 0);
        return finder.find(table, Code.ASKED, modesNow, NONE) == 0
                && store.isInt(finder.typeFound());
    }

    private int put(int x, int v) {
        code.ask(x, v);
        int ended = machine.run(Code.ASKED);
        if (ended == 0 && machine.kindCome() != Machine.INT_CAME) {
            return WRONG;
        }
        return ended;
    }

    private boolean triedAnew(int letter, int v) {
        if (finder.find(trial, letter, v, NONE) != 0) {
            return false;
        }
        boolean free = mayBeGeneral(v, DEFINITIONS_GENERAL, finder.isValue());
        if (!trial.prepare(finder.typeFound(), free)) {
            return false;
        }
        trial.commit(letter, finder.isValue(), 0);
        return true;
    }

    /** The ROW. */
    private static final class Told {
        private static final int ROOM = 32;
        private final int[] numbers = new int[ROOM];
        private int size;

        void clear() {
            size = 0;
        }

        void add(int v) {
            if (size < ROOM) {
                numbers[size] = v;
                size++;
            }
        }

        int addType(Store store, int node) {
            int nodes = store.write(node, numbers, size, ROOM - size);
            if (nodes > 0) {
                size += nodes;
            }
            return nodes;
        }

        int size() {
            return size;
        }

        int at(int i) {
            return i >= 0 && i < size ? numbers[i] : 0;
        }
    }

    /** Expressions as orders, each part behind its own parts; a slot for each definition, and two more. */
    private static final class Code {
        static final int TEXT = 10;
        static final int ASKED = 11;
        static final int SLOTS = 12;
        // a sign gives two orders at most
        static final int SPAN = 160;

        static final int STOP = 0;
        static final int LETTER = 1;
        static final int NUMBER = 2;
        static final int TRUTH = 3;
        static final int HOLE = 4;
        static final int FUN_OPEN = 5;
        static final int FUN_CLOSE = 6;
        static final int SELF_OPEN = 7;
        static final int SELF_CLOSE = 8;
        static final int LET_BIND = 9;
        static final int LET_CLOSE = 10;
        static final int TEST = 11;
        static final int ELSE = 12;
        static final int IF_CLOSE = 13;
        static final int INT_LEFT = 14;
        static final int PLUS = 15;
        static final int MINUS = 16;
        static final int LESS = 17;
        static final int SAME = 18;
        static final int WRITE = 19;
        static final int FIRST = 20;
        static final int SECOND = 21;
        static final int NEW = 22;
        static final int READ = 23;
        static final int PAIRED = 24;
        static final int APPLY = 25;

        private final int[] orders = new int[SLOTS * SPAN];
        private final int[] arguments = new int[SLOTS * SPAN];
        private final int[] places = new int[SLOTS * SPAN];
        // how far behind an order the one stands that it may go to
        private final int[] jumps = new int[SLOTS * SPAN];
        private final int[] sizes = new int[SLOTS];
        private int slot;

        void begin(int into) {
            if (into >= 0 && into < SLOTS) {
                slot = into;
                sizes[into] = 0;
            }
        }

        int emit(int order, int argument, int place) {
            int size = sizes[slot];
            if (size >= SPAN) {
                return slot * SPAN + SPAN - 1;
            }
            int at = slot * SPAN + size;
            orders[at] = order;
            arguments[at] = argument;
            places[at] = place;
            jumps[at] = 1;
            sizes[slot] = size + 1;
            return at;
        }

        /** Lets an order go to behind the latest one. */
        void aim(int at) {
            if (at >= 0 && at < jumps.length) {
                jumps[at] = slot * SPAN + sizes[slot] - at;
            }
        }

        void ask(int letter, int v) {
            begin(ASKED);
            emit(LETTER, letter, 0);
            emit(NUMBER, v, 1);
            emit(APPLY, 0, 0);
            emit(STOP, 0, 0);
        }

        void copy(int from, int to) {
            if (from < 0 || from >= SLOTS || to < 0 || to >= SLOTS) {
                return;
            }
            System.arraycopy(orders, from * SPAN, orders, to * SPAN, SPAN);
            System.arraycopy(arguments, from * SPAN, arguments, to * SPAN, SPAN);
            System.arraycopy(places, from * SPAN, places, to * SPAN, SPAN);
            System.arraycopy(jumps, from * SPAN, jumps, to * SPAN, SPAN);
            sizes[to] = sizes[from];
        }

        int start(int of) {
            return of >= 0 && of < SLOTS ? of * SPAN : 0;
        }

        int sizeOf(int of) {
            return of >= 0 && of < SLOTS ? sizes[of] : 0;
        }

        boolean has(int at) {
            return at >= 0 && at < orders.length;
        }

        int orderAt(int at) {
            return has(at) ? orders[at] : STOP;
        }

        int argumentAt(int at) {
            return has(at) ? arguments[at] : 0;
        }

        int placeOf(int at) {
            return has(at) ? places[at] : 0;
        }

        int behindJump(int at) {
            return has(at) ? at + jumps[at] : at + 1;
        }

        /** Whether an order is a letter that is used, a number, T or F. */
        boolean isSign(int at) {
            int order = orderAt(at);
            return order == LETTER || order == NUMBER || order == TRUTH;
        }

        boolean hasHole(int of) {
            int from = start(of);
            int to = from + sizeOf(of);
            for (int at = from; at < to; at++) {
                if (orderAt(at) == HOLE) {
                    return true;
                }
            }
            return false;
        }
    }

    /** Reads an expression into orders; methods answer the place of the part that they read. */
    private static final class Reader {
        private static final int AT_END = -1;
        private static final int BAD = -2;
        private static final int TERMS = 8;
        private static final int FACTORS = 8;
        private static final int DIGITS = 3;

        private final Code code;
        private int[] signs;
        private int size;
        private int at;
        private int refused;
        private boolean holes;

        Reader(Code orders) {
            code = orders;
            signs = new int[0];
            refused = NONE;
        }

        int read(int[] text, int length, int from, int slot, boolean withHoles) {
            signs = text;
            size = Math.min(length, text.length);
            at = Math.max(from, 0);
            refused = NONE;
            holes = withHoles;
            code.begin(slot);
            expression(0);
            if (peek() != AT_END) {
                refuse();
            }
            code.emit(Code.STOP, 0, 0);
            return refused;
        }

        /** The next sign; behind a refused one nothing can stand, so that all that is open ends. */
        private int peek() {
            if (refused != NONE) {
                return BAD;
            }
            if (at >= size) {
                return AT_END;
            }
            return at >= SIGNS ? BAD : signs[at];
        }

        private void refuse() {
            if (refused == NONE) {
                refused = at;
            }
        }

        private void expect(int sign) {
            if (peek() == sign) {
                at++;
            } else {
                refuse();
            }
        }

        private boolean opens(int depth) {
            if (depth >= OPEN) {
                refuse();
                return false;
            }
            at++;
            return true;
        }

        private static boolean isLetter(int sign) {
            return sign >= 'a' && sign <= 'z';
        }

        private static boolean isDigit(int sign) {
            return sign >= '0' && sign <= '9';
        }

        private int boundLetter() {
            int sign = peek();
            if (!isLetter(sign)) {
                refuse();
                return 0;
            }
            at++;
            return sign - 'a';
        }

        private int expression(int depth) {
            int sign = peek();
            if (sign == '%') {
                return binder(Code.FUN_OPEN, Code.FUN_CLOSE, depth);
            }
            if (sign == '$') {
                return binder(Code.SELF_OPEN, Code.SELF_CLOSE, depth);
            }
            if (sign == '[') {
                return let(depth);
            }
            return assignment(depth);
        }

        private int binder(int open, int close, int depth) {
            int place = at;
            if (opens(depth)) {
                int letter = boundLetter();
                expect('.');
                int opened = code.emit(open, letter, place);
                expression(depth + 1);
                code.emit(close, letter, place);
                code.aim(opened);
            }
            return place;
        }

        private int let(int depth) {
            int place = at;
            if (opens(depth)) {
                int letter = boundLetter();
                expect('=');
                expression(depth + 1);
                expect(']');
                code.emit(Code.LET_BIND, letter, place);
                expression(depth + 1);
                code.emit(Code.LET_CLOSE, letter, place);
            }
            return place;
        }

        private int assignment(int depth) {
            int place = comparison(depth);
            if (peek() == '~') {
                at++;
                comparison(depth);
                code.emit(Code.WRITE, 0, place);
            }
            return place;
        }

        private int comparison(int depth) {
            int place = sum(depth);
            int sign = peek();
            if (sign == '<' || sign == '=') {
                at++;
                code.emit(Code.INT_LEFT, 0, place);
                sum(depth);
                code.emit(sign == '<' ? Code.LESS : Code.SAME, 0, place);
            }
            return place;
        }

        private int sum(int depth) {
            int place = term(depth);
            for (int terms = 1; terms < TERMS; terms++) {
                int sign = peek();
                if (sign != '+' && sign != '-') {
                    return place;
                }
                at++;
                code.emit(Code.INT_LEFT, 0, place);
                term(depth);
                code.emit(sign == '+' ? Code.PLUS : Code.MINUS, 0, place);
            }
            return place;
        }

        private int term(int depth) {
            int place = factor(depth);
            for (int factors = 1; factors < FACTORS; factors++) {
                if (!beginsFactor(peek())) {
                    return place;
                }
                factor(depth);
                code.emit(Code.APPLY, 0, place);
            }
            return place;
        }

        private boolean beginsFactor(int sign) {
            switch (sign) {
                case 'T':
                case 'F':
                case '(':
                case '{':
                case '?':
                case '&':
                case '|':
                case '@':
                case '!':
                    return true;
                case '_':
                    return holes;
                default:
                    return isLetter(sign) || isDigit(sign);
            }
        }

        private int factor(int depth) {
            int sign = peek();
            int place = at;
            switch (sign) {
                case '(':
                    return inside(depth);
                case '{':
                    return pair(depth);
                case '?':
                    return condition(depth);
                case '&':
                    return prefix(Code.FIRST, depth);
                case '|':
                    return prefix(Code.SECOND, depth);
                case '@':
                    return prefix(Code.NEW, depth);
                case '!':
                    return prefix(Code.READ, depth);
                default:
                    leaf(sign);
                    return place;
            }
        }

        private void leaf(int sign) {
            int place = at;
            if (isLetter(sign)) {
                at++;
                code.emit(Code.LETTER, sign - 'a', place);
            } else if (isDigit(sign)) {
                number();
            } else if (sign == 'T' || sign == 'F') {
                at++;
                code.emit(Code.TRUTH, sign == 'T' ? 1 : 0, place);
            } else if (sign == '_' && holes) {
                at++;
                code.emit(Code.HOLE, 0, place);
            } else {
                refuse();
            }
        }

        private void number() {
            int place = at;
            int value = 0;
            for (int digits = 0; digits < DIGITS; digits++) {
                int sign = peek();
                if (!isDigit(sign)) {
                    break;
                }
                value = value * 10 + sign - '0';
                at++;
            }
            code.emit(Code.NUMBER, value, place);
        }

        private int inside(int depth) {
            int place = at;
            if (opens(depth)) {
                place = expression(depth + 1);
                expect(')');
            }
            return place;
        }

        private int pair(int depth) {
            int place = at;
            if (opens(depth)) {
                expression(depth + 1);
                expect(',');
                expression(depth + 1);
                expect('}');
                code.emit(Code.PAIRED, 0, place);
            }
            return place;
        }

        private int condition(int depth) {
            int place = at;
            if (opens(depth)) {
                expect('(');
                expression(depth + 1);
                expect(',');
                int test = code.emit(Code.TEST, 0, place);
                expression(depth + 1);
                expect(',');
                int other = code.emit(Code.ELSE, 0, place);
                code.aim(test);
                expression(depth + 1);
                expect(')');
                code.emit(Code.IF_CLOSE, 0, place);
                code.aim(other);
            }
            return place;
        }

        private int prefix(int order, int depth) {
            int place = at;
            if (opens(depth)) {
                factor(depth + 1);
                code.emit(order, 0, place);
            }
            return place;
        }
    }

    /** Types while they are found: nodes that share parts; a node that became another has a link to it. */
    private static final class Store {
        // 76 letters of 24 nodes, each put to something, and 120 weak ones
        private static final int SIZE = 2200;
        private static final int STACK = 2 * SIZE + 4;

        private final int[] kinds = new int[SIZE];
        private final int[] firsts = new int[SIZE];
        private final int[] seconds = new int[SIZE];
        private final int[] links = new int[SIZE];
        private final int[] marks = new int[SIZE];
        private final int[] labels = new int[SIZE];
        private final int[] work = new int[STACK];
        private final int[] lefts = new int[STACK];
        private final int[] rights = new int[STACK];
        private final int[] trail = new int[SIZE];
        private final int[] fresh = new int[NODES];
        private final int[] built = new int[NODES];
        private final int[] plain = new int[NODES];
        private int plains;
        private int size;
        private int trailed;
        private int stamp;
        private int weakSeen;
        private int intNode;
        private int boolNode;

        /** Forgets all: the weak variables are the nodes 0, 1, .. then. */
        void renew(int weak) {
            size = 0;
            trailed = 0;
            for (int i = 0; i < weak; i++) {
                make(VARIABLE, 0, 0);
            }
            intNode = make(INT, 0, 0);
            boolNode = make(BOOL, 0, 0);
        }

        int make(int kind, int first, int second) {
            if (size >= SIZE) {
                return SIZE - 1;
            }
            kinds[size] = kind;
            firsts[size] = first;
            seconds[size] = second;
            links[size] = NONE;
            marks[size] = 0;
            size++;
            return size - 1;
        }

        int makeVariable() {
            return make(VARIABLE, 0, 0);
        }

        int intType() {
            return intNode;
        }

        int boolType() {
            return boolNode;
        }

        boolean isInt(int node) {
            return kinds[root(node)] == INT;
        }

        int made() {
            return size;
        }

        int tied() {
            return trailed;
        }

        /** All is as it was when made() and tied() answered these. */
        void back(int madeThen, int tiedThen) {
            for (int i = trailed - 1; i >= tiedThen && i >= 0; i--) {
                links[trail[i]] = NONE;
            }
            trailed = Math.min(trailed, Math.max(tiedThen, 0));
            size = Math.min(size, Math.max(madeThen, 0));
        }

        private int root(int node) {
            int at = node >= 0 && node < SIZE ? node : 0;
            for (int hops = 0; hops < SIZE && links[at] >= 0; hops++) {
                at = links[at];
            }
            return at;
        }

        private int link(int from, int to) {
            if (trailed < SIZE) {
                links[from] = to;
                trail[trailed] = from;
                trailed++;
            }
            return 0;
        }

        /** Puts the parts of a node on the work stack, the first one on top: how high it is then. */
        private int pushParts(int node, int height) {
            int top = height;
            if (kinds[node] >= FUN && top + 2 <= STACK) {
                if (kinds[node] != CELL) {
                    work[top] = seconds[node];
                    top++;
                }
                work[top] = firsts[node];
                top++;
            }
            return top;
        }

        /** 0, or the FAULT. */
        int makeOne(int one, int other) {
            int height = 1;
            lefts[0] = one;
            rights[0] = other;
            for (int turn = 0; turn < TURNS && height > 0; turn++) {
                height--;
                int left = lefts[height];
                if (left < 0) {
                    merge(root(-1 - left), root(rights[height]));
                    continue;
                }
                left = root(left);
                int right = root(rights[height]);
                if (left == right) {
                    continue;
                }
                int fault = 0;
                if (kinds[left] == VARIABLE) {
                    fault = contains(right, left) ? INSIDE : link(left, right);
                } else if (kinds[right] == VARIABLE) {
                    fault = contains(left, right) ? INSIDE : link(right, left);
                } else if (kinds[left] != kinds[right]) {
                    fault = UNLIKE;
                } else {
                    height = pushPairs(left, right, height);
                }
                if (fault != 0) {
                    return fault;
                }
            }
            return 0;
        }

        // types that proved to be one are linked, but only behind their parts: else one inside itself would pass
        private void merge(int left, int right) {
            if (left != right) {
                link(left, right);
            }
        }

        private int pushPairs(int left, int right, int height) {
            int top = height;
            if (kinds[left] < FUN || top + 3 > STACK) {
                return top;
            }
            lefts[top] = -1 - left;
            rights[top] = right;
            top++;
            if (kinds[left] != CELL) {
                lefts[top] = seconds[left];
                rights[top] = seconds[right];
                top++;
            }
            lefts[top] = firsts[left];
            rights[top] = firsts[right];
            return top + 1;
        }

        private boolean contains(int node, int variable) {
            stamp++;
            int height = 1;
            work[0] = node;
            for (int turn = 0; turn < TURNS && height > 0; turn++) {
                height--;
                int at = root(work[height]);
                if (at == variable) {
                    return true;
                }
                if (marks[at] != stamp) {
                    marks[at] = stamp;
                    height = pushParts(at, height);
                }
            }
            return false;
        }

        /** How many nodes; no more than one beyond what may be. */
        int nodesOf(int node) {
            int nodes = 0;
            int height = 1;
            work[0] = node;
            while (height > 0 && nodes <= NODES) {
                height--;
                nodes++;
                height = pushParts(root(work[height]), height);
            }
            return nodes;
        }

        void clearLabels() {
            stamp++;
            weakSeen = 0;
        }

        int weakLabelled() {
            return weakSeen;
        }

        /** Labels the variables in a type: by their nodes (own), or by weak numbers as they come. */
        void label(int node, boolean own) {
            int height = 1;
            work[0] = node;
            for (int turn = 0; turn < TURNS && height > 0; turn++) {
                height--;
                int at = root(work[height]);
                if (marks[at] == stamp) {
                    continue;
                }
                marks[at] = stamp;
                if (kinds[at] == VARIABLE) {
                    labels[at] = WEAK + (own ? at : weakSeen);
                    weakSeen++;
                }
                height = pushParts(at, height);
            }
        }

        // weak ones have their numbers in the order of the rows, so that order is kept by going up
        void labelWeak(int weak) {
            clearLabels();
            for (int i = 0; i < weak; i++) {
                label(i, false);
            }
        }

        /** Writes a type as a row, labels for variables that have one: how long it is, or NONE. */
        int write(int node, int[] into, int at, int limit) {
            int written = 0;
            int height = 1;
            work[0] = node;
            plains = 0;
            for (int turn = 0; turn < TURNS && height > 0; turn++) {
                height--;
                int next = root(work[height]);
                if (written >= limit || at < 0 || at + written >= into.length) {
                    return NONE;
                }
                into[at + written] = kinds[next] == VARIABLE ? labelOf(next) : kinds[next];
                written++;
                height = pushParts(next, height);
            }
            return written;
        }

        private int labelOf(int variable) {
            if (marks[variable] == stamp) {
                return labels[variable];
            }
            for (int i = 0; i < plains; i++) {
                if (plain[i] == variable) {
                    return i;
                }
            }
            if (plains < NODES) {
                plain[plains] = variable;
                plains++;
            }
            return plains - 1;
        }

        /** Makes the type that a row tells, with new variables for its plain numbers. */
        int build(int[] row, int from, int codes) {
            for (int i = 0; i < NODES; i++) {
                fresh[i] = NONE;
            }
            int height = 0;
            int last = 0;
            for (int i = Math.min(from + codes, row.length) - 1; i >= from && i >= 0; i--) {
                int told = row[i];
                int parts = told == FUN || told == PAIR ? 2 : told == CELL ? 1 : 0;
                if (height < parts || height - parts >= NODES) {
                    return last;
                }
                int first = parts > 0 ? built[height - 1] : 0;
                int second = parts > 1 ? built[height - 2] : 0;
                last = parts > 0 ? make(told, first, second) : builtLeaf(told);
                height += 1 - parts;
                built[height - 1] = last;
            }
            return last;
        }

        private int builtLeaf(int told) {
            if (told >= WEAK) {
                return told - WEAK;
            }
            if (told == INT) {
                return intNode;
            }
            if (told == BOOL || told < 0 || told >= NODES) {
                return boolNode;
            }
            if (fresh[told] == NONE) {
                fresh[told] = make(VARIABLE, 0, 0);
            }
            return fresh[told];
        }
    }

    /** Definitions in order, their types as rows. */
    private static final class Table {
        private final Store store;
        private final int[] letters = new int[LETTERS];
        private final int[] values = new int[LETTERS];
        private final int[] signs = new int[LETTERS];
        private final int[] places = new int[LETTERS];
        private final int[] lengths = new int[LETTERS];
        private final int[] rows = new int[LETTERS * NODES];
        private final int[] nextLengths = new int[LETTERS];
        private final int[] nextRows = new int[LETTERS * NODES];
        private int size;
        private int weak;
        private int nextWeak;

        Table(Store types) {
            store = types;
            for (int i = 0; i < LETTERS; i++) {
                places[i] = NONE;
            }
        }

        void clear() {
            shrink(0);
            weak = 0;
        }

        private void shrink(int to) {
            for (int at = size - 1; at >= to && at >= 0; at--) {
                places[letters[at]] = NONE;
            }
            size = Math.min(size, Math.max(to, 0));
        }

        int size() {
            return size;
        }

        int weakTotal() {
            return weak;
        }

        boolean knows(int letter) {
            return placeOf(letter) >= 0;
        }

        int placeOf(int letter) {
            return letter >= 0 && letter < LETTERS ? places[letter] : NONE;
        }

        private boolean has(int at) {
            return at >= 0 && at < size && at < LETTERS;
        }

        int letterAt(int at) {
            return has(at) ? letters[at] : 0;
        }

        int nodesOf(int at) {
            return has(at) ? lengths[at] : 0;
        }

        int valueOf(int at) {
            return has(at) ? values[at] : 0;
        }

        int signsOf(int at) {
            return has(at) ? signs[at] : 0;
        }

        int codeAt(int at, int i) {
            if (at < 0 || at >= size || i < 0 || i >= lengths[at] || i >= NODES) {
                return INT;
            }
            return rows[at * NODES + i];
        }

        int bits() {
            int bits = 0;
            for (int at = 0; at < size; at++) {
                bits |= 1 << letterAt(at);
            }
            return bits;
        }

        int allNodes() {
            int all = 0;
            for (int at = 0; at < size; at++) {
                all += nodesOf(at);
            }
            return all;
        }

        // general variables are numbered from 0 on, so the highest number tells how many
        int generalsOf(int at) {
            int generals = 0;
            for (int i = 0; i < nodesOf(at); i++) {
                int told = codeAt(at, i);
                if (told < INT) {
                    generals = Math.max(generals, told + 1);
                }
            }
            return generals;
        }

        int weakOf(int at) {
            int seen = 0;
            for (int i = 0; i < nodesOf(at); i++) {
                if (codeAt(at, i) >= WEAK && isFirst(at, i)) {
                    seen++;
                }
            }
            return seen;
        }

        private boolean isFirst(int at, int i) {
            for (int k = 0; k < i; k++) {
                if (codeAt(at, k) == codeAt(at, i)) {
                    return false;
                }
            }
            return true;
        }

        int throughsOf(int at) {
            int throughs = 0;
            int i = 0;
            for (int turn = 0; turn < NODES && codeAt(at, i) == FUN; turn++) {
                throughs++;
                i = behindPart(at, i + 1);
            }
            return throughs;
        }

        /** Where the part ends that begins at i. */
        int behindPart(int at, int i) {
            int open = 1;
            int k = i;
            while (open > 0 && k < nodesOf(at)) {
                int told = codeAt(at, k);
                if (told == FUN || told == PAIR) {
                    open++;
                } else if (told != CELL) {
                    open--;
                }
                k++;
            }
            return k;
        }

        boolean sameRow(int at, Table other, int otherAt) {
            int nodes = nodesOf(at);
            if (nodes != other.nodesOf(otherAt)) {
                return false;
            }
            for (int i = 0; i < nodes; i++) {
                if (codeAt(at, i) != other.codeAt(otherAt, i)) {
                    return false;
                }
            }
            return true;
        }

        /** The type of a definition in the store, with new variables for general ones. */
        int instance(int letter) {
            int at = placeOf(letter);
            return store.build(rows, at * NODES, nodesOf(at));
        }

        /** Tells all rows anew, that of a new definition behind them: whether none is too long. */
        boolean prepare(int node, boolean free) {
            if (size >= LETTERS) {
                return false;
            }
            store.labelWeak(weak);
            for (int at = 0; at < size; at++) {
                int nodes = prepareRow(at);
                if (nodes < 0) {
                    return false;
                }
                nextLengths[at] = nodes;
            }
            if (!free) {
                store.label(node, false);
            }
            nextWeak = store.weakLabelled();
            nextLengths[size] = store.write(node, nextRows, size * NODES, NODES);
            return nextLengths[size] > 0;
        }

        private int prepareRow(int at) {
            int written = 0;
            for (int i = 0; i < nodesOf(at); i++) {
                int told = codeAt(at, i);
                if (written >= NODES) {
                    return NONE;
                }
                if (told < WEAK) {
                    nextRows[at * NODES + written] = told;
                    written++;
                } else {
                    int more = store.write(told - WEAK, nextRows, at * NODES + written, NODES - written);
                    if (more < 0) {
                        return NONE;
                    }
                    written += more;
                }
            }
            return written;
        }

        /** Takes what was prepared last. */
        void commit(int letter, boolean value, int howMany) {
            if (size >= LETTERS || letter < 0 || letter >= LETTERS) {
                return;
            }
            letters[size] = letter;
            values[size] = value ? 1 : 0;
            signs[size] = howMany;
            places[letter] = size;
            size++;
            weak = nextWeak;
            System.arraycopy(nextLengths, 0, lengths, 0, LETTERS);
            System.arraycopy(nextRows, 0, rows, 0, LETTERS * NODES);
        }

        void save(int[] into, int at) {
            if (at < 0 || at + Past.SPAN > into.length) {
                return;
            }
            into[at + 1] = size;
            into[at + 2] = weak;
            System.arraycopy(lengths, 0, into, at + 3, LETTERS);
            System.arraycopy(rows, 0, into, at + 3 + LETTERS, LETTERS * NODES);
        }

        void load(int[] from, int at) {
            if (at < 0 || at + Past.SPAN > from.length) {
                return;
            }
            shrink(from[at + 1]);
            weak = from[at + 2];
            System.arraycopy(from, at + 3, lengths, 0, LETTERS);
            System.arraycopy(from, at + 3 + LETTERS, rows, 0, LETTERS * NODES);
        }
    }

    /** Finds types, order by order. */
    private static final class Finder {
        // a place in the stack for each part, a bound letter for each that may be open
        private static final int PARTS = Code.SPAN;
        private static final int BOUND = OPEN + 1;

        private final Store store;
        private final Code code;
        private Table table;
        private final int[] types = new int[PARTS];
        private final boolean[] values = new boolean[PARTS];
        private final int[] parts = new int[PARTS];
        private final int[] letters = new int[BOUND];
        // the variable of a letter behind % or $, NONE for one that is let, which has a row
        private final int[] variables = new int[BOUND];
        private final int[] lengths = new int[BOUND];
        private final int[] rows = new int[BOUND * NODES];
        private int height;
        private int bound;
        private int partsSeen;
        private int fault;
        private int place;
        private int holeNode;
        private int modesThen;
        private boolean lastValue;

        Finder(Store types, Code orders, Table definitions) {
            store = types;
            code = orders;
            table = definitions;
        }

        int typeFound() {
            return types[0];
        }

        boolean isValue() {
            return values[0];
        }

        int faultPlace() {
            return place;
        }

        int holeType() {
            return holeNode;
        }

        int partsFound() {
            return partsSeen;
        }

        int partFound(int i) {
            return i >= 0 && i < partsSeen ? parts[i] : 0;
        }

        private void begin(Table definitions, int modes) {
            table = definitions;
            modesThen = modes;
            height = 0;
            bound = 0;
            partsSeen = 0;
            fault = 0;
            store.renew(definitions.weakTotal());
            holeNode = store.makeVariable();
        }

        /** Finds the type of what a slot holds, one order being a HOLE (or NONE): 0, or the FAULT. */
        int find(Table definitions, int slot, int modes, int holeAt) {
            begin(definitions, modes);
            int from = code.start(slot);
            int to = from + code.sizeOf(slot);
            for (int at = from; at < to && fault == 0; at++) {
                int argument = code.argumentAt(at);
                place = code.placeOf(at);
                switch (at == holeAt ? Code.HOLE : code.orderAt(at)) {
                    case Code.LETTER -> letter(argument);
                    case Code.NUMBER -> found(store.intType(), true);
                    case Code.TRUTH -> found(store.boolType(), true);
                    case Code.HOLE -> found(holeNode, false);
                    case Code.FUN_OPEN, Code.SELF_OPEN -> bind(argument, store.makeVariable());
                    case Code.FUN_CLOSE -> closeFunction();
                    case Code.SELF_CLOSE -> closeItself();
                    case Code.LET_BIND -> bindLet(argument);
                    case Code.LET_CLOSE -> closeLet();
                    case Code.TEST -> fail(store.makeOne(take(), store.boolType()));
                    case Code.IF_CLOSE -> closeCondition();
                    case Code.INT_LEFT -> fail(store.makeOne(top(), store.intType()));
                    case Code.PLUS, Code.MINUS -> closeInts(store.intType());
                    case Code.LESS, Code.SAME -> closeInts(store.boolType());
                    case Code.WRITE -> write();
                    case Code.FIRST -> takePart(true);
                    case Code.SECOND -> takePart(false);
                    case Code.NEW -> found(store.make(CELL, take(), 0), false);
                    case Code.READ -> readCell();
                    case Code.PAIRED -> pair();
                    case Code.APPLY -> apply();
                    default -> { }
                }
            }
            return fault;
        }

        /** The first FAULT stays; 0 is none. */
        private void fail(int which) {
            if (fault == 0) {
                fault = which;
            }
        }

        /** A part was found: it is on top of the stack then. */
        private void found(int node, boolean value) {
            if (fault != 0 || height >= PARTS || partsSeen >= PARTS) {
                return;
            }
            types[height] = node;
            values[height] = value;
            height++;
            parts[partsSeen] = node;
            partsSeen++;
            if (store.nodesOf(node) > NODES) {
                fail(LARGE);
            }
        }

        private int take() {
            if (height < 1) {
                return 0;
            }
            height--;
            lastValue = values[height];
            return types[height];
        }

        private int top() {
            return height > 0 ? types[height - 1] : 0;
        }

        private void bind(int letter, int variable) {
            if (bound < BOUND) {
                letters[bound] = letter;
                variables[bound] = variable;
                lengths[bound] = 0;
                bound++;
            }
        }

        private int unbind() {
            if (bound < 1) {
                return 0;
            }
            bound--;
            return variables[bound];
        }

        private void letter(int letter) {
            for (int i = bound - 1; i >= 0; i--) {
                if (letters[i] == letter) {
                    found(variables[i] >= 0 ? variables[i] : store.build(rows, i * NODES, lengths[i]), true);
                    return;
                }
            }
            if (table.knows(letter)) {
                found(table.instance(letter), true);
            } else {
                fail(UNKNOWN);
            }
        }

        private void closeFunction() {
            int body = take();
            found(store.make(FUN, unbind(), body), true);
        }

        private void closeItself() {
            int body = take();
            fail(store.makeOne(unbind(), body));
            found(body, false);
        }

        private void bindLet(int letter) {
            int node = take();
            store.clearLabels();
            if (mayBeGeneral(modesThen, LETS_GENERAL, lastValue)) {
                labelAround();
            } else {
                store.label(node, true);
            }
            if (bound < BOUND) {
                int nodes = store.write(node, rows, bound * NODES, NODES);
                bind(letter, NONE);
                lengths[bound - 1] = nodes;
            }
        }

        /** Labels all variables that stand around and so can't be general. */
        private void labelAround() {
            for (int i = 0; i < bound; i++) {
                if (variables[i] >= 0) {
                    store.label(variables[i], true);
                }
                for (int k = 0; k < lengths[i]; k++) {
                    int told = rows[i * NODES + k];
                    if (told >= WEAK) {
                        store.label(told - WEAK, true);
                    }
                }
            }
            store.label(holeNode, true);
            for (int i = 0; i < table.weakTotal(); i++) {
                store.label(i, true);
            }
        }

        private void closeLet() {
            unbind();
            found(take(), false);
        }

        private void closeCondition() {
            int other = take();
            int node = take();
            fail(store.makeOne(node, other));
            found(node, false);
        }

        private void closeInts(int result) {
            fail(store.makeOne(take(), store.intType()));
            take();
            found(result, false);
        }

        private void write() {
            int node = take();
            fail(store.makeOne(take(), store.make(CELL, node, 0)));
            found(node, false);
        }

        private void takePart(boolean first) {
            int one = store.makeVariable();
            int other = store.makeVariable();
            fail(store.makeOne(take(), store.make(PAIR, one, other)));
            found(first ? one : other, false);
        }

        private void readCell() {
            int held = store.makeVariable();
            fail(store.makeOne(take(), store.make(CELL, held, 0)));
            found(held, false);
        }

        private void pair() {
            int second = take();
            boolean secondValue = lastValue;
            int first = take();
            found(store.make(PAIR, first, second), lastValue && secondValue);
        }

        private void apply() {
            int to = take();
            int result = store.makeVariable();
            fail(store.makeOne(take(), store.make(FUN, to, result)));
            found(result, false);
        }
    }

    /** Does expressions, order by order. */
    private static final class Machine {
        static final int INT_CAME = 0;
        static final int BOOL_CAME = 1;
        static final int FUN_CAME = 2;
        static final int PAIR_CAME = 3;
        static final int CELL_CAME = 4;
        // what a letter of ITSELF stands for: not done yet
        private static final int SELF = 5;
        private static final int STEPS = 100;
        private static final int HEAP = 16384;
        private static final int STACK = 4096;
        private static final int FRAMES = 1024;
        private static final int RUNNING = 1;

        private final Code code;
        private final int[] heap = new int[HEAP];
        private final int[] kinds = new int[STACK];
        private final int[] datas = new int[STACK];
        private final int[] returns = new int[FRAMES];
        private final int[] saved = new int[FRAMES];
        private int used;
        private int height;
        private int frames;
        private int steps;
        private int at;
        private int around;
        private int state;
        private int kind;
        private int data;

        Machine(Code orders) {
            code = orders;
        }

        int stepsDone() {
            return steps;
        }

        int kindCome() {
            return kind;
        }

        int intCome() {
            return data;
        }

        /** 0, or how it ended. */
        int run(int slot) {
            used = 1;
            height = 0;
            frames = 0;
            steps = 0;
            around = 0;
            state = RUNNING;
            at = code.start(slot);
            for (int turn = 0; turn < TURNS && state == RUNNING; turn++) {
                int argument = code.argumentAt(at);
                int next = at + 1;
                int order = code.orderAt(at);
                switch (order) {
                    case Code.LETTER -> next = letter(argument);
                    case Code.NUMBER -> push(INT_CAME, argument);
                    case Code.TRUTH -> push(BOOL_CAME, argument);
                    case Code.FUN_OPEN -> next = openFunction();
                    case Code.SELF_OPEN -> openItself(argument);
                    case Code.FUN_CLOSE, Code.SELF_CLOSE, Code.STOP -> next = leave();
                    case Code.LET_BIND -> bindLet(argument);
                    case Code.LET_CLOSE -> around = heapAt(around + 3);
                    case Code.TEST -> next = test();
                    case Code.ELSE -> next = code.behindJump(at);
                    case Code.PLUS, Code.MINUS, Code.LESS, Code.SAME -> compute(order);
                    case Code.WRITE -> write();
                    case Code.FIRST -> takePart(0);
                    case Code.SECOND -> takePart(2);
                    case Code.NEW -> makeCell();
                    case Code.READ -> readCell();
                    case Code.PAIRED -> pair();
                    case Code.APPLY -> next = apply();
                    default -> { }
                }
                at = next;
            }
            pop();
            return state;
        }

        private void stop(int how) {
            if (state == RUNNING) {
                state = how;
            }
        }

        private void push(int what, int with) {
            if (height >= STACK) {
                stop(TOO_LONG);
                return;
            }
            kinds[height] = what;
            datas[height] = with;
            height++;
        }

        /** The value on top becomes kind and data. */
        private void pop() {
            kind = INT_CAME;
            data = 0;
            if (height > 0) {
                height--;
                kind = kinds[height];
                data = datas[height];
            }
        }

        private int heapAt(int where) {
            return where >= 0 && where < HEAP ? heap[where] : 0;
        }

        private void put(int where, int first, int second) {
            if (where >= 0 && where + 1 < HEAP) {
                heap[where] = first;
                heap[where + 1] = second;
            }
        }

        private int take(int room) {
            if (used + room > HEAP) {
                stop(TOO_LONG);
                return 0;
            }
            used += room;
            return used - room;
        }

        private int surround(int letter, int what, int with, int parent) {
            int entry = take(4);
            put(entry, letter, what);
            put(entry + 2, with, parent);
            return entry;
        }

        private void step() {
            steps++;
            if (steps > STEPS) {
                stop(TOO_LONG);
            }
        }

        private void enter(int back) {
            if (frames >= FRAMES) {
                stop(TOO_LONG);
                return;
            }
            returns[frames] = back;
            saved[frames] = around;
            frames++;
        }

        private int leave() {
            if (frames < 1) {
                stop(0);
                return at;
            }
            frames--;
            around = saved[frames];
            return returns[frames];
        }

        private int letter(int letter) {
            int entry = around;
            for (int turn = 0; turn < HEAP && entry > 0; turn++) {
                if (heapAt(entry) == letter) {
                    return standsFor(entry);
                }
                entry = heapAt(entry + 3);
            }
            step();
            enter(at + 1);
            around = 0;
            return code.start(letter);
        }

        private int standsFor(int entry) {
            int what = heapAt(entry + 1);
            int with = heapAt(entry + 2);
            if (what != SELF) {
                push(what, with);
                return at + 1;
            }
            step();
            enter(at + 1);
            around = entry;
            return with;
        }

        private int openFunction() {
            int closure = take(2);
            put(closure, at, around);
            push(FUN_CAME, closure);
            return code.behindJump(at);
        }

        private void openItself(int letter) {
            enter(code.behindJump(at));
            around = surround(letter, SELF, at + 1, around);
        }

        private void bindLet(int letter) {
            pop();
            around = surround(letter, kind, data, around);
        }

        private int test() {
            pop();
            if (kind != BOOL_CAME) {
                stop(WRONG);
            }
            return data == 0 ? code.behindJump(at) : at + 1;
        }

        private void compute(int order) {
            pop();
            int right = data;
            boolean ints = kind == INT_CAME;
            pop();
            if (!ints || kind != INT_CAME) {
                stop(WRONG);
                return;
            }
            switch (order) {
                case Code.PLUS -> push(INT_CAME, data + right);
                case Code.MINUS -> push(INT_CAME, data - right);
                case Code.LESS -> push(BOOL_CAME, data < right ? 1 : 0);
                default -> push(BOOL_CAME, data == right ? 1 : 0);
            }
        }

        private void write() {
            pop();
            int what = kind;
            int with = data;
            pop();
            if (kind != CELL_CAME) {
                stop(WRONG);
                return;
            }
            put(data, what, with);
            push(what, with);
        }

        private void takePart(int which) {
            pop();
            if (kind != PAIR_CAME) {
                stop(WRONG);
                return;
            }
            push(heapAt(data + which), heapAt(data + which + 1));
        }

        private void makeCell() {
            pop();
            int cell = take(2);
            put(cell, kind, data);
            push(CELL_CAME, cell);
        }

        private void readCell() {
            pop();
            if (kind != CELL_CAME) {
                stop(WRONG);
                return;
            }
            push(heapAt(data), heapAt(data + 1));
        }

        private void pair() {
            int both = take(4);
            pop();
            put(both + 2, kind, data);
            pop();
            put(both, kind, data);
            push(PAIR_CAME, both);
        }

        private int apply() {
            pop();
            int what = kind;
            int with = data;
            pop();
            if (kind != FUN_CAME) {
                stop(WRONG);
                return at;
            }
            int open = heapAt(data);
            step();
            enter(at + 1);
            around = surround(code.argumentAt(open), what, with, heapAt(data + 1));
            return open + 1;
        }

        /** Tells what came behind what the ROW has; a cell may hold itself, so numbers are counted. */
        void tell(Told told) {
            int left = TOLD_OF_VALUE;
            height = 0;
            push(kind, data);
            int cameKind = kind;
            int cameData = data;
            while (height > 0 && left > 0) {
                pop();
                told.add(kind);
                left--;
                if (kind <= BOOL_CAME && left > 0) {
                    told.add(data);
                    left--;
                }
                if (kind == PAIR_CAME) {
                    int both = data;
                    push(heapAt(both + 2), heapAt(both + 3));
                    push(heapAt(both), heapAt(both + 1));
                } else if (kind == CELL_CAME) {
                    push(heapAt(data), heapAt(data + 1));
                }
            }
            kind = cameKind;
            data = cameData;
        }
    }

    /** How things were ahead of the latest changes. */
    private static final class Past {
        static final int SPAN = 3 + LETTERS + LETTERS * NODES;
        private static final int KEPT = 24;
        private final int[] states = new int[KEPT * SPAN];
        private int next;
        private int size;

        int size() {
            return size;
        }

        void keep(Table table, int modes) {
            states[next * SPAN] = modes;
            table.save(states, next * SPAN);
            next = next + 1 < KEPT ? next + 1 : 0;
            size = Math.min(size + 1, KEPT);
        }

        /** Brings the latest state back: the MODES of it. */
        int back(Table table) {
            next = next > 0 ? next - 1 : KEPT - 1;
            size = Math.max(size - 1, 0);
            table.load(states, next * SPAN);
            return states[next * SPAN];
        }
    }

    /** What was heard of a definition. */
    private static final class Heard {
        static final int KINDS = 5;
        private static final int KEPT = 12;
        private static final int[] HIGHEST = {5, 24, 9, 1, 9};
        private final int[] whats = new int[KEPT];
        private final int[] numbers = new int[KEPT];
        private int size;

        int size() {
            return size;
        }

        void clear() {
            size = 0;
        }

        /** The highest number that may be heard of a kind. */
        static int highest(int what) {
            return what >= 0 && what < KINDS ? HIGHEST[what] : NONE;
        }

        boolean add(int what, int v) {
            if (size >= KEPT || v < 0 || v > highest(what)) {
                return false;
            }
            whats[size] = what;
            numbers[size] = v;
            size++;
            return true;
        }

        /** The definitions (bits) of which all is so that was heard. */
        int fitting(Table table) {
            int bits = table.bits();
            for (int i = 0; i < size; i++) {
                bits &= holding(table, whats[i], numbers[i]);
            }
            return bits;
        }

        /** How many of some definitions are left at most when it is asked and answered. */
        int leftAtMost(Table table, int bits, int what, int v) {
            int yes = Integer.bitCount(bits & holding(table, what, v));
            return Math.max(yes, Integer.bitCount(bits) - yes);
        }

        private static int holding(Table table, int what, int v) {
            int bits = 0;
            for (int at = 0; at < table.size(); at++) {
                if (holds(table, at, what, v)) {
                    bits |= 1 << table.letterAt(at);
                }
            }
            return bits;
        }

        private static boolean holds(Table table, int at, int what, int v) {
            switch (what) {
                case 0:
                    return outermost(table.codeAt(at, 0)) == v;
                case 1:
                    return table.nodesOf(at) >= v;
                case 2:
                    return table.generalsOf(at) == v;
                case 3:
                    return table.valueOf(at) == v;
                default:
                    return table.throughsOf(at) == v;
            }
        }

        private static int outermost(int told) {
            return told >= INT && told <= CELL ? told - INT : 5;
        }
    }

    /** Definitions among themselves. */
    private static final class Among {
        private static final int WAY = 3;
        private final Store store;
        private final Table table;
        private final int[] way = new int[WAY];
        private final int[] starts = new int[NODES];

        Among(Store types, Table definitions) {
            store = types;
            table = definitions;
        }

        int onTheWay(int i) {
            return i >= 0 && i < WAY ? way[i] : 0;
        }

        /** The definitions (bits) that can be made one with a type, each by itself. */
        int fitting(int node) {
            int bits = 0;
            for (int letter = 0; letter < LETTERS; letter++) {
                if (table.knows(letter) && meets(node, letter)) {
                    bits |= 1 << letter;
                }
            }
            return bits;
        }

        private boolean meets(int node, int letter) {
            int made = store.made();
            int tied = store.tied();
            boolean met = store.makeOne(table.instance(letter), node) == 0;
            store.back(made, tied);
            return met;
        }

        /** Whether the row at place x becomes that at place y by types for its plain numbers. */
        boolean covers(int x, int y) {
            for (int i = 0; i < NODES; i++) {
                starts[i] = NONE;
            }
            int k = 0;
            for (int i = 0; i < table.nodesOf(x); i++) {
                int told = table.codeAt(x, i);
                if (k >= table.nodesOf(y)) {
                    return false;
                }
                if (told >= INT) {
                    if (told != table.codeAt(y, k)) {
                        return false;
                    }
                    k++;
                } else {
                    if (!standsFor(told, y, k)) {
                        return false;
                    }
                    k = table.behindPart(y, k);
                }
            }
            return true;
        }

        private boolean standsFor(int variable, int y, int k) {
            if (variable < 0 || variable >= NODES) {
                return false;
            }
            int start = starts[variable];
            if (start == NONE) {
                starts[variable] = k;
                return true;
            }
            int codes = table.behindPart(y, k) - k;
            if (table.behindPart(y, start) - start != codes) {
                return false;
            }
            for (int i = 0; i < codes; i++) {
                if (table.codeAt(y, start + i) != table.codeAt(y, k + i)) {
                    return false;
                }
            }
            return true;
        }

        /** How many definitions lead from x to y, or NONE. */
        int fewest(int x, int y) {
            store.renew(table.weakTotal());
            int node = table.instance(x);
            for (int n = 0; n <= WAY; n++) {
                if (leads(node, y, 0, n)) {
                    return n;
                }
            }
            return NONE;
        }

        private boolean leads(int node, int goal, int done, int n) {
            if (done >= n || done >= WAY) {
                return meets(node, goal);
            }
            for (int letter = 0; letter < LETTERS; letter++) {
                if (table.knows(letter)) {
                    int made = store.made();
                    int tied = store.tied();
                    way[done] = letter;
                    int result = store.makeVariable();
                    int put = store.make(FUN, node, result);
                    boolean led = store.makeOne(table.instance(letter), put) == 0
                            && store.nodesOf(result) <= NODES
                            && leads(result, goal, done + 1, n);
                    store.back(made, tied);
                    if (led) {
                        return true;
                    }
                }
            }
            return false;
        }

        /** How many definitions have the type of the one at a place; 0 if one ahead of it has it. */
        int alike(int at) {
            int like = 0;
            for (int i = 0; i < table.size(); i++) {
                if (table.sameRow(i, table, at)) {
                    if (i < at) {
                        return 0;
                    }
                    like++;
                }
            }
            return like;
        }
    }
}
