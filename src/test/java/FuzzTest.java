import java.util.ArrayList;
import java.util.List;
import java.util.NoSuchElementException;
import java.util.Random;

/** Runs of calls by fixed seeds, each answered by the class and by the Oracle; all that can be asked is compared. */
public final class FuzzTest {
    private static final String SIGNS = "abcdefghijxyz0123456789TF_%$[]=.(){},?&|@!+-<=~ Az";
    private static final String[] KNOWN = {
        "%x.x", "%x.%y.x", "%x.%y.y", "%x.%y.%z.xz(yz)", "%f.%g.%x.f(gx)", "$f.%x.?(x<1,0,x+f(x-1))",
        "@(%x.x)", "@1", "%x.@x", "%c.!c", "%p.{|p,&p}", "%p.&p", "%x.{x,x}", "%f.%x.f(fx)", "$x.x", "%x.$y.y",
        "(%x.x)(%x.x)", "[x=%y.y]{x1,xT}", "[x=@(%y.y)][z=x~(%y.y+1)](!x)T", "[x=(%y.y)(%y.y)]x", "%x.?(x,1,2)",
        "%x.x+1", "%x.x<2", "%c.c~!c+1", "[c=@0]%x.c~!c+x", "%f.%x.%y.f{x,y}", "%f.%p.f(&p)(|p)", "%x.%y.y~x",
        "@@1", "{@0,@T}", "$f.%x.fx", "%x.[y=x]{y,y}", "%x.{x,{x,x}}", "{T,{1,F}}", "%x.x-1", "@(@(%x.x))",
        "[f=%x.{x,x}]%z.f(f(fz))", "%x.%y.?(T,x,y)", "(%x.xx)(%x.x)", "[c=@(%x.x)][d=c~(%x.?(x,F,T))](!c)1",
        "(!a){{{1,1},{1,1}},{{1,1},{T,1}}}", "(!b){{1,1},{1,T}}", "_{{{1,1},{1,1}},{{1,1},{T,1}}}{{{1,1},1},1}",
        "%x.{{x,{x,x}},{{x,x},x}}", "%x.%y.%z.{{x,y},{z,{x,y}}}", "%p.{{{p,p},{p,p}},{{p,p},{p,p}}}", "$f.{f,1}",
        "[c=@(%x.x)][d=c~(%x.x+1)](!c)T", "[c=@(%x.x)][d=c~(%x.&x)](!c)1", "[c=@(%x.x)][d=c~(%x.!x)](!c)1",
        "[c=@(%x.x)][d=c~(%x.x1)](!c)1", "[c=@(%x.x)][d=c~(%x.x~1)]{(!c)1,(!c)T}", "%n.[c=@(%x.x)][d=c~(%x.x<1)](!c)n",
        "%n.[c=@(%x.x)][d=c~(%x.|x)](!c)n", "$f.%x.?(x=0,1,f(x-1)+f(x-1))", "$f.%x.%y.?(y=0,0,x+fx(y-1))",
        "$f.%x.?(x<7,x,f(x-7))", "%x.[c=@{x,x}][d=c~{|!c,1+&!c}]!c", "{{{1,T},{2,F}},{{3,T},{4,F}}}", "@@@@@@@(%x.x)",
        "[c=@(%x.x)][f=%z.(!c)z][d=c~f]f", "{%x.x,@(%y.y)}", "{@(%x.x),@(%x.x)}", "%x.%y.?(T,{x,1},{1,y})",
    };

    private final Random random;
    // few letters in some runs, so that they are bound anew within themselves
    private final String letters;
    // many changes of MODES in some runs, so that more than are kept can be undone
    private final boolean restless;
    private int compared;

    private FuzzTest(int run) {
        random = new Random(run * 7919L);
        letters = run % 2 == 0 ? "xyzwab" : "xya";
        restless = run % 5 == 0;
    }

    private int upTo(int n) {
        return random.nextInt(n);
    }

    // ---- texts

    /** An expression by the grammar alone. */
    private String wild(int depth) {
        if (depth <= 0) {
            return leaf();
        }
        switch (upTo(16)) {
            case 0:
            case 1:
                return "%" + bound() + "." + wild(depth - 1);
            case 2:
                return "$" + bound() + "." + wild(depth - 1);
            case 3:
                return "[" + bound() + "=" + wild(depth - 1) + "]" + wild(depth - 1);
            case 4:
                return "{" + wild(depth - 1) + "," + wild(depth - 1) + "}";
            case 5:
                return "?(" + wild(depth - 1) + "," + wild(depth - 1) + "," + wild(depth - 1) + ")";
            case 6:
                return factor(depth - 1) + "+-".charAt(upTo(2)) + factor(depth - 1);
            case 7:
                return factor(depth - 1) + "<=".charAt(upTo(2)) + factor(depth - 1);
            case 8:
                return factor(depth - 1) + "~" + factor(depth - 1);
            case 9:
            case 10:
            case 11:
                return factor(depth - 1) + factor(depth - 1);
            case 12:
                return "&|@!".charAt(upTo(4)) + factor(depth - 1);
            case 13:
                return factor(depth - 2) + factor(depth - 2) + factor(depth - 2);
            default:
                return leaf();
        }
    }

    private String factor(int depth) {
        String e = wild(depth);
        return e.length() == 1 ? e : "(" + e + ")";
    }

    private char bound() {
        return letters.charAt(upTo(letters.length()));
    }

    private String leaf() {
        switch (upTo(8)) {
            case 0:
                return String.valueOf(upTo(12));
            case 1:
                return upTo(2) == 0 ? "T" : "F";
            case 2:
            case 3:
                return String.valueOf((char) ('a' + upTo(10)));
            default:
                return String.valueOf(bound());
        }
    }

    // goals: I, B, *ab (pair), >ab (function), @a (cell)
    private String goal(int depth) {
        switch (depth <= 0 ? upTo(2) : upTo(7)) {
            case 0:
                return "I";
            case 1:
                return "B";
            case 2:
                return "*" + goal(depth - 1) + goal(depth - 1);
            case 3:
                return "@" + goal(depth - 1);
            default:
                return ">" + goal(depth - 1) + goal(depth - 1);
        }
    }

    private static int behind(String goal, int from) {
        char c = goal.charAt(from);
        if (c == 'I' || c == 'B') {
            return from + 1;
        }
        int one = behind(goal, from + 1);
        return c == '@' ? one : behind(goal, one);
    }

    /** An expression that has a type, but for letters of definitions that are put into it. */
    private String typed(String goal, List<String> around, int depth) {
        List<String> fitting = new ArrayList<>();
        for (String a : around) {
            if (a.substring(1).equals(goal)) {
                fitting.add(a.substring(0, 1));
            }
        }
        if (!fitting.isEmpty() && upTo(3) > 0) {
            return fitting.get(upTo(fitting.size()));
        }
        if (depth > 0 && upTo(3) > 0) {
            return composed(goal, around, depth - 1);
        }
        if (upTo(9) == 0) {
            return String.valueOf((char) ('a' + upTo(10)));
        }
        return plain(goal, around, depth - 1);
    }

    private String typedFactor(String goal, List<String> around, int depth) {
        String e = typed(goal, around, depth);
        return e.length() == 1 || e.charAt(0) == '{' && goal.charAt(0) == '*' && upTo(2) == 0 ? e : "(" + e + ")";
    }

    private String plain(String goal, List<String> around, int depth) {
        char c = goal.charAt(0);
        if (c == 'I') {
            return String.valueOf(upTo(14));
        }
        if (c == 'B') {
            return upTo(2) == 0 ? "T" : "F";
        }
        int middle = behind(goal, 1);
        String one = goal.substring(1, middle);
        if (c == '@') {
            return "@" + typedFactor(one, around, depth);
        }
        String other = goal.substring(middle);
        if (c == '*') {
            return "{" + typed(one, around, depth) + "," + typed(other, around, depth) + "}";
        }
        char letter = bound();
        return "%" + letter + "." + typed(other, with(around, letter, one), depth);
    }

    private List<String> with(List<String> around, char letter, String goal) {
        List<String> more = new ArrayList<>();
        for (String a : around) {
            if (a.charAt(0) != letter) {
                more.add(a);
            }
        }
        more.add(letter + goal);
        return more;
    }

    private String composed(String goal, List<String> around, int depth) {
        String other = goal(1);
        char letter = bound();
        switch (upTo(11)) {
            case 0:
            case 1:
                return typedFactor(">" + other + goal, around, depth) + typedFactor(other, around, depth);
            case 2:
                return "?(" + typed("B", around, depth) + "," + typed(goal, around, depth) + ","
                        + typed(goal, around, depth) + ")";
            case 3:
                return "[" + letter + "=" + typed(other, around, depth) + "]"
                        + typed(goal, with(around, letter, other), depth);
            case 4:
                return itself(goal, with(around, letter, goal), letter, depth);
            case 5:
                return "&" + typedFactor("*" + goal + other, around, depth);
            case 6:
                return "|" + typedFactor("*" + other + goal, around, depth);
            case 7:
                return "!" + typedFactor("@" + goal, around, depth);
            case 8:
                return typedFactor("@" + goal, around, depth) + "~" + typedFactor(goal, around, depth);
            default:
                if (goal.equals("I")) {
                    return typedFactor("I", around, depth) + "+-".charAt(upTo(2)) + typedFactor("I", around, depth);
                }
                if (goal.equals("B")) {
                    return typedFactor("I", around, depth) + "<=".charAt(upTo(2)) + typedFactor("I", around, depth);
                }
                return plain(goal, around, depth);
        }
    }

    /** With a cell that counts around it, ITSELF comes to an end. */
    private String itself(String goal, List<String> around, char letter, int depth) {
        if (!around.contains("c@I")) {
            return "$" + letter + "." + typed(goal, around, depth);
        }
        String again = upTo(2) == 0 ? typed(goal, around, depth) : rebound(around, letter);
        return "$" + letter + ".?((c~!c+1)<" + upTo(5) + "," + again + "," + typed(goal, around, depth - 1) + ")";
    }

    /** A letter behind another one that is let to be something else there. */
    private String rebound(List<String> around, char letter) {
        String other = around.get(upTo(around.size()));
        if (other.charAt(0) == letter || other.charAt(0) == 'c') {
            return String.valueOf(letter);
        }
        return "[" + other.charAt(0) + "=" + typed(other.substring(1), around, 1) + "]" + letter;
    }

    private String counted() {
        String goal = goal(1);
        char let = bound();
        char letter = bound();
        List<String> around = with(with(new ArrayList<>(), 'c', "@I"), let, goal);
        String e = upTo(2) == 0 ? typed(goal(1), around, 2 + upTo(3))
                : itself(goal, with(around, letter, goal), letter, 1 + upTo(2));
        return "[c=@0][" + let + "=" + typed(goal, new ArrayList<>(), 1) + "]" + e;
    }

    private String mutated(String text) {
        if (text.isEmpty()) {
            return text;
        }
        int at = upTo(text.length());
        String sign = String.valueOf(SIGNS.charAt(upTo(SIGNS.length())));
        switch (upTo(4)) {
            case 0:
                return text.substring(0, at) + text.substring(at + 1);
            case 1:
                return text.substring(0, at) + sign + text.substring(at);
            case 2:
                return text.substring(0, at) + sign + text.substring(at + 1);
            default:
                return text.substring(0, at);
        }
    }

    private String holed(String text) {
        StringBuilder b = new StringBuilder(text);
        for (int i = 0; i < b.length(); i++) {
            boolean used = i == 0 || "%$[".indexOf(b.charAt(i - 1)) < 0;
            if (used && Character.isLetterOrDigit(b.charAt(i)) && upTo(5) == 0) {
                b.setCharAt(i, '_');
            }
        }
        return b.toString();
    }

    private String expression() {
        String e;
        switch (upTo(7)) {
            case 0:
                e = wild(1 + upTo(4));
                break;
            case 6:
                e = counted();
                break;
            case 1:
            case 2:
                e = KNOWN[upTo(KNOWN.length)];
                break;
            case 3:
                e = letters();
                break;
            default:
                e = typed(goal(2), new ArrayList<>(), 1 + upTo(4));
                break;
        }
        if (upTo(8) == 0) {
            e = mutated(e);
        }
        if (upTo(30) == 0) {
            e = e + "+" + e + "+" + wild(3);
        }
        if (upTo(40) == 0) {
            e = "((((((((".substring(upTo(3)) + e;
        }
        return e;
    }

    /** Definitions put to one another. */
    private String letters() {
        StringBuilder b = new StringBuilder();
        int n = 1 + upTo(4);
        for (int i = 0; i < n; i++) {
            char c = (char) ('a' + upTo(10));
            switch (upTo(6)) {
                case 0:
                    b.append('(').append(c).append((char) ('a' + upTo(10))).append(')');
                    break;
                case 1:
                    b.append("!&|@".charAt(upTo(4))).append(c);
                    break;
                case 2:
                    b.append('{').append(c).append(',').append((char) ('a' + upTo(10))).append('}');
                    break;
                default:
                    b.append(c);
                    break;
            }
        }
        return b.toString();
    }

    // ---- calls

    private void run(int run) {
        TypeLevels ours = new TypeLevels();
        Oracle due = new Oracle();
        List<String> calls = new ArrayList<>();
        int letters = run % 3 == 0 ? 10 : 1 + upTo(10);
        try {
            if (run % 3 == 0) {
                fill(ours, due, calls);
            }
            for (int i = 0; i < 300; i++) {
                String text = textFor(letters);
                int kind = kindOf(text);
                if (kind < 7) {
                    String t = kind == 2 && upTo(4) > 0 ? holed(text) : text;
                    give(ours, due, t);
                    calls.add("\"" + t + "\" " + NAMES[kind]);
                } else {
                    calls.add(NAMES[kind]);
                }
                int x = upTo(20) == 0 ? upTo(14) - 2 : upTo(letters);
                int y = upTo(20) == 0 ? upTo(14) - 2 : upTo(letters);
                calls.set(calls.size() - 1, calls.get(calls.size() - 1) + " " + x + " " + y);
                long got = call(ours, null, kind, x, y);
                long want = call(null, due, kind, x, y);
                compare(run, calls, "answered", got, want);
                compareAll(run, calls, ours, due);
            }
        } catch (Oracle.TooMuch e) {
            // a type too large to be written out: the class is left without a second opinion here
            return;
        }
    }

    /** Many definitions at once, by any modes, so that calls among them find something. */
    private void fill(TypeLevels ours, Oracle due, List<String> calls) {
        int modes = upTo(8);
        ours.modes(modes);
        due.modes(modes);
        calls.add("modes(" + modes + ")");
        for (int i = 0; i < 24; i++) {
            String e = upTo(3) == 0 ? typed(goal(2), new ArrayList<>(), 3) : KNOWN[upTo(KNOWN.length)];
            String t = (char) ('a' + upTo(10)) + "=" + e;
            give(ours, due, t);
            calls.add("\"" + t + "\" defines");
            compare(0, calls, "answered", ours.defines(), due.defines());
        }
    }

    private static final String[] NAMES = {
        "type", "comes", "hole", "blames", "parts", "defines", "cut", "modes", "undo", "definition", "scheme",
        "general", "one", "applies", "behind", "flips", "ways", "sorts", "largest", "gives", "finds", "heard",
        "forget", "fits", "asks", "law", "count", "row", "sign", "end",
    };

    private String textFor(int letters) {
        if (upTo(3) == 0) {
            return (char) ('a' + upTo(letters)) + (upTo(60) == 0 ? "" : "=") + expression();
        }
        return expression();
    }

    private int kindOf(String text) {
        if (text.length() > 1 && text.charAt(1) == '=') {
            return upTo(12) == 0 ? upTo(7) : 5;
        }
        if (restless && upTo(3) == 0) {
            return upTo(6) == 0 ? 8 : 7;
        }
        int kind = upTo(2) > 0 ? upTo(5) : 6 + upTo(NAMES.length - 6);
        if ((kind == 8 || kind == 22) && upTo(6) > 0) {
            return kind == 8 ? 5 : 21;
        }
        if (kind == 7 && upTo(2) == 0) {
            return 10;
        }
        return kind == 16 && upTo(3) > 0 ? 11 : kind;
    }

    private static void give(TypeLevels ours, Oracle due, String text) {
        ours.end(0);
        due.end(0);
        for (int i = 0; i < text.length() && i < 80; i += 4) {
            int v = 0;
            for (int k = 0; k < 4; k++) {
                v = v << 8 | (i + k < text.length() ? text.charAt(i + k) : 0);
            }
            ours.sign(v);
            due.sign(v);
        }
        int n = Math.min(80, text.length());
        ours.end(n);
        due.end(n);
    }

    private static final long THROWN = Long.MIN_VALUE;

    private long call(TypeLevels a, Oracle b, int kind, int x, int y) {
        try {
            return called(a, b, kind, x, y);
        } catch (NoSuchElementException e) {
            return THROWN;
        }
    }

    private long called(TypeLevels a, Oracle b, int kind, int x, int y) {
        boolean our = a != null;
        int mode = (x * 7 + y * 3 + 70) % 9;
        int odd = x * 31 - y * 17;
        switch (NAMES[kind]) {
            case "type":
                return our ? a.type() : b.type();
            case "comes":
                return our ? a.comes() : b.comes();
            case "hole":
                return our ? a.hole() : b.hole();
            case "blames":
                return our ? a.blames() : b.blames();
            case "parts":
                return our ? a.parts() : b.parts();
            case "defines":
                return our ? a.defines() : b.defines();
            case "cut":
                return (our ? a.end(odd) : b.end(odd)) ? 1 : 0;
            case "modes":
                return our ? a.modes(mode) : b.modes(mode);
            case "undo":
                return our ? a.undo() : b.undo();
            case "definition":
                return our ? a.definition(x, y) : b.definition(x, y);
            case "scheme":
                return our ? a.scheme(x) : b.scheme(x);
            case "general":
                return our ? a.general(x, y) : b.general(x, y);
            case "one":
                return our ? a.one(x, y) : b.one(x, y);
            case "applies":
                return our ? a.applies(x, y) : b.applies(x, y);
            case "behind":
                return our ? a.behind(x, y) : b.behind(x, y);
            case "flips":
                return our ? a.flips(x) : b.flips(x);
            case "ways":
                return our ? a.ways(x, y) : b.ways(x, y);
            case "sorts":
                return our ? a.sorts() : b.sorts();
            case "largest":
                return our ? a.largest() : b.largest();
            case "gives":
                return our ? a.gives(x, y - 1) : b.gives(x, y - 1);
            case "finds":
                return our ? a.finds(x, y) : b.finds(x, y);
            case "heard":
                return our ? a.heard(x % 5, x + y) : b.heard(x % 5, x + y);
            case "forget":
                return our ? a.forget() : b.forget();
            case "fits":
                return our ? a.fits() : b.fits();
            case "asks":
                return our ? a.asks() : b.asks();
            case "law":
                return our ? a.law(mode) : b.law(mode);
            case "count":
                return our ? a.count(x) : b.count(x);
            case "row":
                return our ? a.row(x) : b.row(x);
            case "sign":
                return our ? a.sign(odd) : b.sign(odd);
            default:
                return (our ? a.end(y) : b.end(y)) ? 1 : 0;
        }
    }

    private void compareAll(int run, List<String> calls, TypeLevels ours, Oracle due) {
        for (int what = 0; what <= 9; what++) {
            compare(run, calls, "count(" + what + ")", ours.count(what), due.count(what));
        }
        for (int i = 0; i < due.count(7); i++) {
            compare(run, calls, "row(" + i + ")", ours.row(i), due.row(i));
        }
    }

    private void compare(int run, List<String> calls, String what, long got, long want) {
        compared++;
        if (got != want) {
            System.out.println("run " + run + ": " + what + " " + got + ", due is " + want + "; the calls:");
            for (String c : calls) {
                System.out.println("  " + c);
            }
            System.exit(1);
        }
    }

    public static void main(String[] args) {
        int from = args.length > 0 ? Integer.parseInt(args[0]) : 1;
        int to = args.length > 1 ? Integer.parseInt(args[1]) : 900;
        long compared = 0;
        for (int run = from; run <= to; run++) {
            FuzzTest test = new FuzzTest(run);
            test.run(run);
            compared += test.compared;
        }
        System.out.println("fuzz: " + compared + " numbers compared");
    }
}
