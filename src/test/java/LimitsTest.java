import java.util.ArrayList;
import java.util.List;

/** Each sentence of the promises that names an edge: the last case that may be, and the first that may not. */
public final class LimitsTest extends Tries {
    private static final String EIGHT = "1+1+1+1+1+1+1+1";
    /** 71 signs, an int. */
    private static final String LONG = "(" + EIGHT + ")+(" + EIGHT + ")+(" + EIGHT + ")+(" + EIGHT + ")";
    /** Twelve, eleven and ten NODES. */
    private static final String TWELVE = "{{1,1},{{1,1},{1,@1}}}";
    private static final String ELEVEN = "{{1,1},{{1,1},{1,1}}}";
    private static final String TEN = "{{1,1},{{1,1},@1}}";
    /** x has eleven NODES behind these 25 signs. */
    private static final String LET = "[x=" + ELEVEN + "]";
    private static final int[] FAR = {Integer.MIN_VALUE, Integer.MAX_VALUE, 256, -256, 1 << 16, 1 << 31};

    // ---- texts, definitions

    private static void newObject() {
        sentence("1: No DEFINITIONS");
        int[] counts = {0, 0, 7, 0, 0, 0, 0, 0, 0};
        for (int what = 0; what <= 8; what++) {
            due("count(" + what + ")", t.count(what), counts[what]);
        }
        for (int x = 0; x <= 9; x++) {
            int y = x;
            due("scheme(" + x + ")", t.scheme(x), -1);
            throwsNoSuch("definition(" + x + ", 0)", o -> o.definition(y, 0));
        }
        throwsNoSuch("row(0)", o -> o.row(0));
        sentence("1: each object by itself");
        TypeLevels other = new TypeLevels();
        given("a=1");
        t.modes(0);
        t.heard(0, 0);
        t.sign(0);
        for (int what = 0; what <= 8; what++) {
            due("count(" + what + ") of the other", other.count(what), counts[what]);
        }
    }

    private static void sign() {
        sentence("2: Refused: there would be more than 80");
        for (int n = 4; n <= 80; n += 4) {
            due("sign", t.sign(0x31313131), n);
        }
        for (int n = 80; n >= 77; n--) {
            due("end", t.end(n), true);
            due("sign behind " + n, t.sign(0x31313131), -1);
            due("signs", t.count(8), n);
        }
        due("end", t.end(76), true);
        due("sign behind 76", t.sign(0x31313131), 80);
        due("end", t.end(73), true);
        due("sign behind 73", t.sign(0x31313131), 77);
        sentence("2: four signs, of v the highest byte first");
        due("sign", t.sign('[' << 24 | 'x' << 16 | '=' << 8 | 'T'), 4);
        due("sign", t.sign(']' << 24 | '{' << 16 | 'x' << 8 | ','), 8);
        due("sign", t.sign('1' << 24 | '}' << 16 | 0xFFFF), 12);
        due("end", t.end(10), true);
        due("type", t.type(), 3);
        row(103, 101, 100);
        // a byte from 128 on is a sign like others: none that can stand
        due("sign", t.sign(0x31FF3131), 4);
        due("type", t.type(), -2);
        due("sign", t.sign(0xB1313131), 4);
        due("type", t.type(), -1);
        sentence("2: a sign behind a text that was read begins a new one");
        due("sign", t.sign(0x31323334), 4);
        due("type", t.type(), -100);
        due("sign", t.sign(0x31323334), 4);
    }

    private static void end() {
        sentence("3: false if it has not so many, or n is below 0");
        due("end(0)", t.end(0), true);
        due("end(1)", t.end(1), false);
        due("end(-1)", t.end(-1), false);
        t.sign('1' << 24 | '+' << 16 | '2' << 8 | '+');
        due("end(5)", t.end(5), false);
        due("end(4)", t.end(4), true);
        due("end(4)", t.end(4), true);
        for (int n : FAR) {
            due("end(" + n + ")", t.end(n), false);
        }
        due("signs", t.count(8), 4);
        due("end(3)", t.end(3), true);
        due("end(4)", t.end(4), false);
        due("signs", t.count(8), 3);
        due("comes", t.comes(), 0);
        row(0, 0, 3);
        due("end(1) of what was read", t.end(1), false);
        for (int n = 4; n <= 80; n += 4) {
            t.sign(0);
        }
        due("end(81)", t.end(81), false);
        due("end(80)", t.end(80), true);
        due("end(0)", t.end(0), true);
        due("signs", t.count(8), 0);
        sentence("3: THE TEXT has its first n signs alone");
        for (int n = 3; n >= 0; n--) {
            write(t, "a=1");
            due("end", t.end(n), true);
            due("defines", t.defines(), n == 3 ? 1 : -1 - n);
        }
        for (int n = 3; n >= 0; n--) {
            write(t, "1+T");
            due("end", t.end(n), true);
            due("type", t.type(), new int[] {-1, 1, -3, -100}[n]);
        }
    }

    private static void defines() {
        sentence("4: a letter a .. j, =, an EXPRESSION");
        type("{1,T}", 3, 103, 100, 101);
        for (char c : "`kzAJ@1=%".toCharArray()) {
            keeps("defines", c + "=1", -1);
        }
        keeps("defines", "", -1);
        keeps("defines", "a", -2);
        keeps("defines", "aa", -2);
        keeps("defines", "a~1", -2);
        keeps("defines", "a=", -3);
        keeps("defines", "a==", -3);
        keeps("defines", "a=1=", -5);
        keeps("defines", "a=_", -3);
        for (char c = 'j'; c >= 'a'; c--) {
            defines(c + "=1", 1, 100);
        }
        due("how many", t.count(1), 10);
        sentence("4: 76 signs in all");
        type("{1,T}", 3, 103, 100, 101);
        keeps("defines", "a=" + LONG + "+111", -77);
        keeps("defines", "a=" + LONG + "+1+", -77);
        keeps("defines", "a=" + LONG + "+1++", -77);
        keeps("defines", "a=" + LONG + "+1)", -76);
        keeps("defines", "a=" + LONG + "+1)11", -76);
        due("none came", t.count(1), 0);
        defines("a=" + LONG + "+11", 1, 100);
        due("signs of it", t.definition(0, 6), 74);
        comes("a", 0, 1, 0, 43);
        keeps("defines", "a=" + LONG + "+111", -77);
        sentence("4: this letter not being one of DEFINITIONS");
        defines("a=a", -102, 2);
        defines("a=%x.xa", -102, 6);
        defines("a=%a.a", 3, 102, 0, 0);
        defines("b=$b.1", 1, 100);
        sentence("4: -103: there is such a DEFINITION (asked behind all signs)");
        given("a=1", "b=T");
        keeps("defines", "a=2", -103);
        keeps("defines", "a=1T", -103);
        keeps("defines", "a=q", -103);
        keeps("defines", "a=a", -103);
        keeps("defines", "a=%x.xx", -103);
        keeps("defines", "a=+", -3);
        keeps("defines", "a", -2);
        keeps("defines", "a=1)", -4);
        comes("a", 0, 1, 0, 1);
        t.undo();
        t.undo();
        defines("a=2", 1, 100);
    }

    private static void tooLarge() {
        sentence("4: -105: the TYPE of a DEFINITION would have more than 24 NODES then (asked last)");
        given("a=@@(%x.x)");
        keeps("defines", "b=(!!a)" + ELEVEN, -105);
        due("WEAK ones", t.count(3), 1);
        answers("defines", "b=(!!a)" + TEN, 10);
        due("NODES", t.definition(0, 1), 23);
        sentence("4: -105, 24 NODES");
        given("a=@(%x.x)", "b=@@(%x.x)");
        answers("defines", "c=(!a)" + ELEVEN, 11);
        due("NODES", t.definition(0, 1), 24);
        keeps("defines", "d=(!!b)" + ELEVEN, -105);
        answers("defines", "d=1", 1);
        sentence("4: -105, by what stands behind a WEAK one");
        given("a=%x.%y.{{x,y},{y,x}}", "b=%p.%q.{{p,q},q}", "c=(%x.x)(%y.1)");
        keeps("defines", "d=c{a,a}", -105);
        t.scheme(2);
        row(102, 1000, 100);
        defines("d=c(@{a,b})", 1, 100);
        due("NODES", t.scheme(2), 24);
        row(102, 104, 103, 102, 1000, 102, 1001, 103, 103, 1000, 1001, 103, 1001, 1000,
                102, 1002, 102, 1003, 103, 103, 1002, 1003, 1003, 100);
        sentence("4: -105 is asked behind the FAULTS");
        given("a=@(%x.x)");
        defines("b={(!a)" + TWELVE + ",1T}", -100, 30);
        defines("b={(!a)" + TWELVE + ",q}", -102, 30);
        defines("b={(!a)" + TWELVE + ",a}", -104, 30);
        keeps("defines", "b={(!a)" + TWELVE + ",1}", -105);
        keeps("defines", "a={(!a)" + TWELVE + ",1}", -103);
        sentence("4: -105, though its own TYPE has few");
        given("a=@(%x.x)");
        keeps("defines", "b=[u=(!a)" + TWELVE + "]1", -105);
        defines("b=[u=(!a)" + ELEVEN + "]1", 1, 100);
    }

    private static void weakAhead() {
        sentence("4: that is not WEAK (by DEFINITIONS ahead of it, as all is then) is GENERAL");
        given("a=@(%x.x)");
        defines("b=%y.?(T,!a,%z.y)", 5, 102, 1000, 102, 1000, 1000);
        defines("c=%y.{a,y}", 8, 102, 0, 103, 104, 102, 1000, 1000, 0);
        due("GENERAL ones", t.definition(2, 2), 1);
        due("WEAK ones", t.definition(2, 3), 1);
        sentence("4: else none is");
        given("a=@(%x.x)");
        defines("b={a,@(%x.x)}", 9, 103, 104, 102, 1000, 1000, 104, 102, 1001, 1001);
        defines("c=&b", 4, 104, 102, 1000, 1000);
        defines("d=|b", 4, 104, 102, 1001, 1001);
        due("WEAK ones in all", t.count(3), 2);
    }

    private static void modes() {
        sentence("5: MODES are v (0 .. 7); -2: they are so; NONE: another v");
        due("modes(7)", t.modes(7), -2);
        int now = 7;
        for (int v : new int[] {0, 7, 1, 6, 2, 5, 3, 4}) {
            due("modes(" + v + ")", t.modes(v), 10 + now);
            due("modes(" + v + ")", t.modes(v), -2);
            due("modes(8)", t.modes(8), -1);
            due("modes(-1)", t.modes(-1), -1);
            for (int far : FAR) {
                due("modes(" + far + ")", t.modes(far), -1);
            }
            now = v;
            due("MODES", t.count(2), v);
        }
        due("what can be undone", t.count(6), 8);
    }

    private static void undo() {
        sentence("6: of 24 that are kept, the latest ones");
        given("a=1", "b=2");
        for (int i = 1; i <= 22; i++) {
            t.modes(i % 2 == 0 ? 7 : 6);
            due("kept", t.count(6), i + 2);
        }
        t.modes(6);
        due("kept", t.count(6), 24);
        for (int i = 23; i >= 0; i--) {
            due("undo", t.undo(), i);
            due("kept", t.count(6), i);
        }
        due("undo", t.undo(), -1);
        due("the first one stays", t.count(0), 1);
        due("MODES", t.count(2), 7);
        sentence("6: 24 that are kept: none was too many");
        given("a=1");
        for (int i = 1; i <= 23; i++) {
            t.modes(i % 2 == 0 ? 7 : 6);
        }
        due("kept", t.count(6), 24);
        for (int i = 23; i >= 0; i--) {
            due("undo", t.undo(), i);
        }
        due("none is left", t.count(0), 0);
        due("MODES", t.count(2), 7);
        manyUndone();
        undoneBehindMany();
        sentence("6: such as were done");
        given("a=1");
        t.modes(7);
        t.modes(8);
        answers("defines", "a=1", -103);
        answers("defines", "b=q", -102);
        answers("defines", "b=", -3);
        due("kept", t.count(6), 1);
        due("undo", t.undo(), 0);
        due("none", t.count(0), 0);
        sentence("6: DEFINITIONS, MODES, and what WEAK ones became are as ahead of it");
        given("c=@(%x.x)", "a=@(%x.%y.x)", "b=(!c)(!a)");
        due("NODES", t.definition(2, 1), 12);
        due("WEAK ones", t.count(3), 2);
        due("undo", t.undo(), 2);
        t.scheme(2);
        row(104, 102, 1000, 1000);
        t.scheme(0);
        row(104, 102, 1001, 102, 1002, 1001);
        due("WEAK ones", t.count(3), 3);
        given("b=(!c)1");
        t.scheme(0);
        row(104, 102, 1000, 102, 1001, 1000);
        comes("{b,!a2T}", 3, 6, 3, 0, 1, 0, 2);
    }

    /** A defines() behind any number of other changes is undone as one is that comes first. */
    private static void undoneBehindMany() {
        for (int n = 0; n <= 60; n++) {
            sentence("6: what WEAK ones became are as ahead of it, behind " + n + " changes");
            given("a=@(%x.x)");
            for (int i = 1; i <= n; i++) {
                t.modes(i % 2 == 0 ? 7 : 6);
            }
            given("b=(!a)1");
            due("WEAK ones", t.count(3), 0);
            due("undo", t.undo(), Math.min(n + 1, 23));
            due("DEFINITIONS", t.count(0), 1);
            due("WEAK ones", t.count(3), 1);
            t.scheme(0);
            row(104, 102, 1000, 1000);
        }
    }

    /** Many changes and undos, against a list of what MODES were. */
    private static void manyUndone() {
        sentence("6: of 24 that are kept, by many changes");
        List<Integer> before = new ArrayList<>();
        int now = 7;
        int[] changes = {30, -10, 15, -24, 3, -3, 40, -5, 5, -24};
        for (int n : changes) {
            for (int i = 0; i < n; i++) {
                int next = (now + 1 + i % 6) % 8;
                due("modes", t.modes(next), 10 + now);
                before.add(now);
                now = next;
                if (before.size() > 24) {
                    before.remove(0);
                }
            }
            for (int i = 0; i > n; i--) {
                now = before.remove(before.size() - 1);
                due("undo", t.undo(), before.size());
                due("MODES", t.count(2), now);
            }
            due("kept", t.count(6), before.size());
        }
        due("undo", t.undo(), -1);
    }

    private static void definition() {
        sentence("7: NoSuchElementException: none such, another what");
        given("j=%x.%y.x", "a=@(%x.x)");
        for (int what = 0; what <= 6; what++) {
            int w = what;
            due("definition(9, " + what + ")", t.definition(9, what), new int[] {0, 5, 2, 0, 2, 1, 7}[what]);
            due("definition(0, " + what + ")", t.definition(0, what), new int[] {1, 4, 0, 1, 0, 0, 7}[what]);
            for (int x : new int[] {-1, 1, 8, 10, Integer.MIN_VALUE, Integer.MAX_VALUE}) {
                throwsNoSuch("definition(" + x + ", " + what + ")", o -> o.definition(x, w));
            }
        }
        for (int what : new int[] {-1, 7, Integer.MIN_VALUE, Integer.MAX_VALUE}) {
            throwsNoSuch("definition(9, " + what + ")", o -> o.definition(9, what));
            throwsNoSuch("definition(3, " + what + ")", o -> o.definition(3, what));
        }
        t.undo();
        throwsNoSuch("what was undone", o -> o.definition(0, 0));
        sentence("7: how many GENERAL VARIABLES, how many WEAK ones");
        given("a=$x.x");
        t.modes(6);
        given("b=$x.x", "c=%x.%y.{x,x}");
        int[][] variables = {{0, 1}, {1, 0}, {2, 0}};
        for (int x = 0; x < variables.length; x++) {
            due("GENERAL ones of " + x, t.definition(x, 2), variables[x][0]);
            due("WEAK ones of " + x, t.definition(x, 3), variables[x][1]);
        }
        sentence("7: FUNs that one comes through, behind first parts of all kinds");
        given("a=%f.%g.f(g1)", "b=%p.%x.&p", "c=%c.%x.!c", "d=%f.%p.f(&p)(|p)", "e={%x.x,1}");
        for (int x = 0; x < 4; x++) {
            due("definition(" + x + ", 4)", t.definition(x, 4), 2);
        }
        due("definition(4, 4)", t.definition(4, 4), 0);
        sentence("7: how many FUNs one comes through by their second parts");
        given("a=1", "b=%f.f1+1", "c=%x.{%y.y,1}", "d=%x.@(%y.y)", "e=%a.%b.%c.%d.%e.%f.%g.%h.1");
        int[] through = {0, 1, 1, 1, 8};
        for (int x = 0; x < through.length; x++) {
            due("definition(" + x + ", 4)", t.definition(x, 4), through[x]);
        }
        given("f=e1", "g=@e");
        due("definition(5, 4)", t.definition(5, 4), 7);
        due("definition(6, 4)", t.definition(6, 4), 0);
    }

    private static void scheme() {
        sentence("8: NONE: none such");
        given("a=1", "j=%x.x");
        due("scheme", t.scheme(9), 3);
        row(102, 0, 0);
        for (int x : new int[] {-1, 1, 8, 10, Integer.MIN_VALUE, Integer.MAX_VALUE}) {
            due("scheme(" + x + ")", t.scheme(x), -1);
        }
        row(102, 0, 0);
        due("scheme", t.scheme(0), 1);
        row(100);
    }

    // ---- types of expressions

    private static void blames() {
        sentence("10: letters but those behind % $ [, digits that begin a NUMBER, T, F");
        tells("blames", "[x=1]xT", 2, 3, 5);
        tells("blames", "$x.@x", 1, 4);
        tells("blames", "%x.xx", 2, 3, 4);
        tells("blames", "123T", 1, 0);
        tells("blames", "?(T,12,F)", 2, 4, 7);
        tells("blames", "?(T,F,12)", 2, 4, 6);
        tells("blames", "q", 1, 0);
        sentence("10: one behind another NUMBER, too");
        tells("blames", "(%x.%y.?(y,x,x))1234", 2, 9, 19);
        tells("blames", "(%x.%y.?(y,x,x))123456", 2, 9, 19);
        tells("blames", "(%x.%y.%z.?(z,x,x))1234567", 2, 12, 25);
        sentence("10: none of them alone: the ROW is empty");
        type("{1,T}", 3, 103, 100, 101);
        tells("blames", "T+T", 0);
        type("{1,T}", 3, 103, 100, 101);
        tells("blames", "{p,q}", 0);
        sentence("10: the first 14");
        String ahead = "[y=%x.x]1+";
        tells("blames", ahead + "yyyyyyy(yyyyyT)", 13, 10, 11, 12, 13, 14, 15, 16, 18, 19, 20, 21, 22, 23);
        tells("blames", ahead + "yyyyyyy(yyyyyyT)", 14, 10, 11, 12, 13, 14, 15, 16, 18, 19, 20, 21, 22, 23, 24);
        tells("blames", ahead + "yyyyyyy(yyyyyyyT)", 15, 10, 11, 12, 13, 14, 15, 16, 18, 19, 20, 21, 22, 23, 24);
        tells("blames", ahead + "yyyyyyy(yyyyyyy(yT))", 16, 10, 11, 12, 13, 14, 15, 16, 18, 19, 20, 21, 22, 23, 24);
        sentence("10: -2: its TYPE can be FOUND; -1 - p: as THE FAULTS (those alone)");
        type("{1,T}", 3, 103, 100, 101);
        keeps("blames", "1", -2);
        keeps("blames", "", -1);
        keeps("blames", "1T)", -3);
        keeps("blames", "_", -1);
        keeps("blames", "1_", -2);
        keeps("blames", LONG + "+1-111", -77);
        keeps("blames", LONG + "+1-11", -2);
        // a HOLE is no VALUE, and its VARIABLE not GENERAL
        tells("blames", "[x={1,%y.y}]{(&x)1,{(|x)1,(|x)T}}", 1, 15);
        tells("blames", "[f=q]{f1,fT}", 0);
        tells("blames", LET + "@@{x,x}", 2, 28, 30);
    }

    private static void hole() {
        sentence("11: without one, if its TYPE can be FOUND: 0; the ROW: nothing");
        type("{1,T}", 3, 103, 100, 101);
        tells("hole", "1", 0);
        due("numbers of the ROW", t.count(7), 0);
        tells("hole", "1T", -100, 0);
        tells("hole", "{1,q}", -102, 3);
        keeps("hole", "1)", -2);
        tells("hole", "%x.x", 0);
        sentence("11: THE FAULTS");
        type("{1,T}", 3, 103, 100, 101);
        keeps("hole", "", -1);
        keeps("hole", "_)", -2);
        keeps("hole", "%_", -2);
        keeps("hole", "[_=1]1", -2);
        keeps("hole", LONG + "+1-111", -77);
        tells("hole", "__", -101, 0);
        tells("hole", "_+?(_,1,2)", -100, 2);
        tells("hole", "{_,q}", -102, 3);
        sentence("11: -105: it has more than 24 NODES");
        answers("hole", LET + "_x" + TEN + "+1", 24);
        due("numbers of the ROW", t.count(7), 25);
        due("the last", t.row(24), 100);
        keeps("hole", LET + "_xx+1", -105);
        keeps("hole", LET + "_xxx", -105);
        tells("hole", LET + "[u=_xx+1]_", -104, 34);
        answers("hole", LET + "[u=_x" + TEN + "+1]_", 24);
        sentence("11: DEFINITIONS, each of which by itself fits there");
        given("j=%x.x", "a=@(%x.x)", "b=@(%x.1)", "c=@(%x.T)", "d=1");
        tells("hole", "_", 1, 512 + 15, 0);
        tells("hole", "{_,a~_}", 3, 512, 102, 1000, 1000);
        tells("hole", "{_1,!a}", 3, 512, 102, 100, 0);
        tells("hole", "?(T,_,a)", 4, 7, 104, 102, 1000, 1000);
        tells("hole", "[u=(!a)2]?(T,_,a)", 4, 3, 104, 102, 100, 100);
        tells("hole", "[u=(!a)T]?(T,_,a)", 4, 5, 104, 102, 101, 101);
        tells("hole", "_+d", 1, 8, 100);
        tells("hole", "_T+d", 3, 0, 102, 101, 100);
        tells("hole", "_2+d", 3, 512, 102, 100, 100);
    }

    private static void parts() {
        sentence("12: the first 14");
        tells("parts", "1+1+1+1+1+1+1", 13, 1, 1, 1, 1, 1, 1, 1, 1, 1, 1, 1, 1, 1);
        tells("parts", "@(1+1+1+1+1+1+1)", 14, 1, 1, 1, 1, 1, 1, 1, 1, 1, 1, 1, 1, 1, 2);
        tells("parts", "@@(1+1+1+1+1+1+1)", 15, 1, 1, 1, 1, 1, 1, 1, 1, 1, 1, 1, 1, 1, 2);
        sentence("12: itself, too; of A B C: five; sums likewise; what stands in ( ) is one with that");
        tells("parts", "1", 1, 1);
        tells("parts", "((((1))))", 1, 1);
        tells("parts", "%f.%x.%y.fxy", 8, 5, 1, 3, 1, 1, 3, 5, 11);
        tells("parts", "%f.%x.%y.((fx)y)", 8, 5, 1, 3, 1, 1, 3, 5, 11);
        tells("parts", "1-2+3", 5, 1, 1, 1, 1, 1);
        tells("parts", "1<2", 3, 1, 1, 1);
        tells("parts", "?(T,1,2)", 4, 1, 1, 1, 1);
        tells("parts", "[x=@1]!x", 5, 1, 2, 2, 1, 1);
        tells("parts", "$x.1", 2, 1, 1);
        tells("parts", "@1~2", 4, 1, 2, 1, 1);
        sentence("12: -105: one of all these has more than 24 NODES");
        answers("parts", LET + "[f=$z.z]fx" + TEN + "+1", 31);
        row(1, 1, 3, 1, 1, 3, 1, 1, 3, 7, 11, 24, 24, 24);
        keeps("parts", LET + "[f=$z.z]fxx+1", -105);
        // the first alone
        given("a=$x.x", "b=" + ELEVEN, "c=" + TEN);
        keeps("parts", "abb+1", -105);
        answers("parts", "abc+1", 7);
        row(24, 11, 12, 10, 1, 1, 1);
        // beyond the first 14, too
        keeps("parts", LET + "[w=1][f=$z.z]fxx+1", -105);
        answers("parts", LET + "[w=1][f=$z.z]fx" + TEN + "+1", 33);
        tells("parts", LET + "@@{x,x}", -104, 25);
        answers("parts", LET + "@{x,x}", 16);
    }

    // ---- definitions among themselves

    private static final int[] NO_LETTERS = {-1, 2, 8, 10, Integer.MIN_VALUE, Integer.MAX_VALUE};

    /** Calls of two DEFINITIONS that answer NONE: none such. */
    private static void noneSuch() {
        sentence("13 .. 18, 22, 23: NONE: none such");
        given("a=1", "j=%x.x");
        type("{1,T}", 3, 103, 100, 101);
        for (int x : NO_LETTERS) {
            for (int y : new int[] {0, 9, x}) {
                due("general", t.general(x, y), -1);
                due("general", t.general(y, x), -1);
                due("one", t.one(x, y), -1);
                due("one", t.one(y, x), -1);
                due("applies", t.applies(x, y), -1);
                due("applies", t.applies(y, x), -1);
                due("behind", t.behind(x, y), -1);
                due("behind", t.behind(y, x), -1);
                due("ways", t.ways(x, y), -1);
                due("ways", t.ways(y, x), -1);
            }
            due("flips", t.flips(x), -1);
            due("gives", t.gives(x, 1), -1);
            due("finds", t.finds(x, 1), -1);
        }
        row(103, 100, 101);
        due("the last letter", t.general(9, 9), 1);
        due("the first letter", t.general(0, 0), 1);
        due("the last letter", t.applies(9, 0), 1);
    }

    private static void general() {
        sentence("13: VARIABLES of y, and WEAK ones, stay what they are");
        given("a=%x.x", "b=@(%x.x)", "c=%x.@x", "d=%x.@(%y.x)", "e=!b", "f=%x.%y.y", "g=$x.x");
        type("{1,T}", 3, 103, 100, 101);
        int[][] want = {
            {1, 0, 0, 0, 1, 0, 0},
            {0, 1, 0, 0, 0, 0, 0},
            {0, 0, 1, 0, 0, 0, 0},
            {0, 0, 0, 1, 0, 0, 0},
            {0, 0, 0, 0, 1, 0, 0},
            {0, 0, 0, 0, 0, 1, 0},
            {0, 0, 0, 0, 0, 0, 1},
        };
        for (int x = 0; x < want.length; x++) {
            for (int y = 0; y < want.length; y++) {
                due("general(" + x + ", " + y + ")", t.general(x, y), want[x][y]);
            }
        }
        row(103, 100, 101);
        sentence("13: as GENERAL as y, or more");
        t.modes(6);
        given("a=$x.x", "b=%x.x", "c=%x.%y.y", "d=%y.%x.x", "e=%x.$y.y", "f=%x.%y.x");
        int[][] wide = {
            {1, 1, 1, 1, 1, 1},
            {0, 1, 0, 0, 0, 0},
            {0, 0, 1, 1, 0, 0},
            {0, 0, 1, 1, 0, 0},
            {0, 1, 1, 1, 1, 1},
            {0, 0, 0, 0, 0, 1},
        };
        for (int x = 0; x < wide.length; x++) {
            for (int y = 0; y < wide.length; y++) {
                due("general(" + x + ", " + y + ")", t.general(x, y), wide[x][y]);
            }
        }
    }

    private static void generalOfParts() {
        sentence("13: one TYPE for a VARIABLE, wherever it stands");
        given("a=%x.x", "b=%x.{|x+0,?(&x,T,F)}", "c=%x.{?(&x,T,F),|x+0}", "d=%x.%y.x");
        t.scheme(1);
        row(102, 103, 101, 100, 103, 100, 101);
        t.scheme(2);
        row(102, 103, 101, 100, 103, 101, 100);
        due("general(0, 1)", t.general(0, 1), 0);
        due("general(0, 2)", t.general(0, 2), 1);
        given("e=%f.%x.f1+x", "f=%f.%x.[u=f1+x]%y.f(y+0)+0", "g=%f.[u=f1+1]f", "h=%f.[u=f1+1]%x.?(f1<1,x,T)");
        t.scheme(6);
        row(102, 102, 100, 100, 102, 100, 100);
        t.scheme(7);
        row(102, 102, 100, 100, 102, 101, 101);
        due("general(0, 6)", t.general(0, 6), 1);
        due("general(0, 7)", t.general(0, 7), 0);
        due("general(0, 4)", t.general(0, 4), 1);
        due("general(3, 4)", t.general(3, 4), 0);
        due("general(3, 5)", t.general(3, 5), 1);
        given("i=%p.%q.?(T,p,{q,&{1,T}})");
        t.scheme(8);
        row(102, 103, 0, 100, 102, 0, 103, 0, 100);
        due("general(3, 8)", t.general(3, 8), 1);
        due("general(8, 3)", t.general(8, 3), 0);
    }

    private static void one() {
        sentence("14: a question ahead of it is forgotten");
        given("a=@(%x.x)", "b=@(%x.1)");
        type("(!a)T", 1, 101);
        due("one", t.one(0, 1), 4);
        row(104, 102, 100, 100);
        due("one", t.one(0, 0), 4);
        row(104, 102, 1000, 1000);
        sentence("14: -105: it has more than 24 NODES");
        given("a=%x.@x", "b=%x.@@x", "c=%x.[z=?(T,x," + ELEVEN + ")]$y.y", "d=%x.[z=?(T,x," + TEN + ")]$y.y");
        due("one", t.one(0, 2), 24);
        row(102, 103, 103, 100, 100, 103, 103, 100, 100, 103, 100, 100,
                104, 103, 103, 100, 100, 103, 103, 100, 100, 103, 100, 100);
        due("one", t.one(3, 1), 23);
        long[] before = rowOf(t);
        due("one", t.one(1, 2), -105);
        due("one", t.one(2, 1), -105);
        row(before);
        sentence("14: -100, -101 (no ROW)");
        given("a=1", "b=T", "c=%x.x", "d=%x.@x", "e=%x.{x,1}", "f=%x.{@x,T}");
        type("{1,T}", 3, 103, 100, 101);
        due("one", t.one(0, 1), -100);
        due("one", t.one(0, 2), -100);
        due("one", t.one(2, 3), -101);
        due("one", t.one(3, 2), -101);
        row(103, 100, 101);
        // first parts, then second ones: FUN of r and PAIR of r and INT, of s and PAIR of CELL of s and BOOL
        due("one", t.one(4, 5), -101);
        due("one", t.one(5, 4), -101);
        row(103, 100, 101);
        due("one", t.one(3, 3), 4);
        row(102, 0, 104, 0);
    }

    private static void puts() {
        sentence("15: applies, FAULTS: -104");
        given("a=" + ELEVEN, "b=%x.@{x,x}", "c=%x.@@{x,x}", "d=%x.{x,x}", "e=1");
        due("applies", t.applies(1, 0), 24);
        due("applies", t.applies(2, 0), -104);
        row(0);
        due("applies", t.applies(4, 0), -100);
        row(0);
        sentence("16: behind, FAULTS: -104");
        given("a=%z." + ELEVEN, "b=%x.{x," + TEN + "}", "c=%x.{x,x}", "d=%x.@@{x,x}", "e=1", "f=%x.x+1");
        due("behind", t.behind(1, 0), 24);
        due("behind", t.behind(2, 0), -104);
        row(0);
        due("behind", t.behind(3, 0), -104);
        row(3);
        due("behind", t.behind(4, 0), -100);
        row(3);
        due("behind", t.behind(0, 4), -100);
        row(5);
        due("behind", t.behind(5, 0), -100);
        row(3);
        sentence("17: flips, FAULTS: -104");
        String q = "[q={{1,1},{1,1}}]";
        given("a=%p." + q + "[z=?(T,p,{q,{q,{1,@1}}})]$y.y", "b=%p." + q + "[z=?(T,p,{@q,{q,{1,@1}}})]$y.y", "c=1",
                "d=%x.1");
        due("NODES", t.definition(0, 1), 22);
        due("flips", t.flips(0), 24);
        due("the first", t.row(1), 0);
        due("the last", t.row(23), 1);
        due("flips", t.flips(1), -104);
        row(0);
        due("flips", t.flips(2), -100);
        row(6);
        due("flips", t.flips(3), -100);
        row(6);
        sentence("15 .. 17: letters that they have themselves are none of DEFINITIONS");
        given("a=%x.x+1");
        due("behind", t.behind(0, 0), 3);
        row(102, 100, 100);
    }

    private static void ways() {
        sentence("18: the fewest DEFINITIONS (0 .. 3); -2: by no three");
        given("a=1", "b=%x.x<1", "c=%x.?(x,@1,@2)", "d=%c.{!c+1,T}", "e=%p.?(|p,@@1,@@(&p))", "f={1,T}", "g=@@1");
        due("ways", t.ways(0, 0), 0);
        row();
        due("ways", t.ways(1, 1), 0);
        row();
        due("ways", t.ways(0, 5), 3);
        row(1, 2, 3);
        due("by four", t.ways(0, 6), -2);
        row(1, 2, 3);
        due("ways", t.ways(5, 6), 1);
        row(4);
        due("ways", t.ways(6, 0), -2);
        row(4);
        sentence("18: any as often as one likes");
        given("a=1", "b=%x.@x", "c=@@@1", "d=@@@@1", "e=@@1", "f=%c.!c");
        due("ways", t.ways(0, 2), 3);
        row(1, 1, 1);
        due("ways", t.ways(0, 4), 2);
        row(1, 1);
        due("ways", t.ways(0, 3), -2);
        due("ways", t.ways(3, 0), -2);
        due("ways", t.ways(2, 0), 3);
        row(5, 5, 5);
        sentence("18: of as few the least row");
        given("j=%x.x<1", "c=%x.1<x", "h=1", "a=T", "i=%x.?(x,@1,@1)", "b=%x.@?(x,1,2)", "g=@7");
        due("ways", t.ways(7, 0), 1);
        row(2);
        due("ways", t.ways(7, 6), 2);
        row(2, 1);
        sentence("18: a FAULT on the way, -104, too: that way is none");
        given("a=" + ELEVEN, "b=%x.@@{x,x}", "c=%c.[u=!!c]T", "d=F");
        due("ways", t.ways(0, 3), -2);
        given("e=%x.@{x,@1}", "f=%c.[u=!c]@@1");
        due("ways", t.ways(0, 3), 3);
        row(4, 5, 2);
        sentence("18: what one of them needs is not what another is asked for");
        given("a=%x.x", "b=1", "c=T");
        due("ways", t.ways(1, 2), -2);
        due("ways", t.ways(1, 1), 0);
        sentence("18: by the first letter, by the last");
        given("a=%x.x<1", "b=1", "c=T", "j=%x.{x,x}", "d={T,T}");
        due("ways", t.ways(1, 2), 1);
        row(0);
        due("ways", t.ways(2, 3), 1);
        row(9);
        due("ways", t.ways(1, 3), 2);
        row(0, 9);
        sentence("18: -104, 24 NODES");
        given("a=" + ELEVEN, "b=%x.@{x,x}", "c=%c.[u=!c]T", "d=F");
        due("ways", t.ways(0, 3), 2);
        row(1, 2);
        sentence("18: what WEAK ones became on a way that leads nowhere is forgotten");
        given("a=@(%x.x)", "b=%c.(!c)1", "c=%c.(!c)T", "d=F");
        due("ways", t.ways(0, 3), 1);
        row(2);
        sentence("18: a question ahead of it is forgotten");
        given("a=@(%x.x)", "b=@(%x.1)");
        type("(!a)T", 1, 101);
        due("ways", t.ways(0, 1), 0);
        sentence("18: WEAK ones become something on the way");
        given("a=@(%x.x)", "b=%c.(!c)1", "c=@(%x.x<1)", "d=1", "e=%c.(!c)2");
        // a is the CELL of a FUN from INT to INT then, and no longer one to BOOL
        due("ways", t.ways(0, 3), 1);
        row(1);
        due("ways", t.ways(0, 2), -2);
        due("ways", t.ways(0, 0), 0);
        row();
    }

    private static void sorts() {
        sentence("19: nothing without");
        type("{1,T}", 3, 103, 100, 101);
        due("sorts", t.sorts(), 0);
        row();
        given("j=1");
        due("sorts", t.sorts(), 1);
        row(1, 9);
        sentence("19: of as many the one whose first comes first");
        given("j=1", "i=T", "a=F", "b=2");
        due("sorts", t.sorts(), 2);
        row(2, 9);
        given("c=T");
        due("sorts", t.sorts(), 2);
        row(3, 8);
        given("d=3");
        due("sorts", t.sorts(), 2);
        row(3, 9);
        sentence("19: TYPES that are not the same: rows as scheme() tells them");
        given("a=@(%x.x)", "b=@(%x.x)", "c=a", "d=%x.x", "e=%y.y", "f=!a");
        due("sorts", t.sorts(), 4);
        row(2, 0);
        sentence("19: all ten");
        for (char c = 'a'; c <= 'j'; c++) {
            given(c + "=1");
        }
        due("sorts", t.sorts(), 1);
        row(10, 0);
    }

    private static void largest() {
        sentence("20: -2: there is none");
        type("{1,T}", 3, 103, 100, 101);
        due("largest", t.largest(), -2);
        row(103, 100, 101);
        given("e=1");
        due("largest", t.largest(), 4);
        row(1, 0);
        t.undo();
        due("largest", t.largest(), -2);
        row(1, 0);
        sentence("20: the most NODES");
        given("a=1", "b=@1");
        due("largest", t.largest(), 1);
        row(2, 0);
        given("c=@@1");
        due("largest", t.largest(), 2);
        row(3, 0);
        sentence("20: of as many the first in order");
        given("i=%x.x", "a=%x.x+1", "b=T");
        due("largest", t.largest(), 8);
        row(3, 0);
        given("d=@(%x.x)", "c=@(%x.1)");
        due("largest", t.largest(), 3);
        row(4, 2);
        answers("defines", "h=" + LET + "@{x,x}", 24);
        due("largest", t.largest(), 7);
        row(24, 2);
    }

    // ---- what they come to

    private static void comes() {
        sentence("21: the first 12 numbers of that alone");
        comes("{1,{2,{3,{%x.x,%x.x}}}}", 3, 0, 3, 0, 1, 3, 0, 2, 3, 0, 3, 3, 2, 2);
        due("thirteen with the STEPS", t.count(7), 13);
        comes("{1,{2,{3,{4,%x.x}}}}", 3, 0, 3, 0, 1, 3, 0, 2, 3, 0, 3, 3, 0, 4);
        comes("{1,{2,{3,{%x.x,4}}}}", 3, 0, 3, 0, 1, 3, 0, 2, 3, 0, 3, 3, 2, 0);
        comes("{1,{2,{%x.x,{3,4}}}}", 3, 0, 3, 0, 1, 3, 0, 2, 3, 2, 3, 0, 3, 0);
        comes("{1,{2,{3,{T,F}}}}", 3, 0, 3, 0, 1, 3, 0, 2, 3, 0, 3, 3, 1, 1);
        comes("{1,{2,{3,4}}}", 3, 0, 3, 0, 1, 3, 0, 2, 3, 0, 3, 0, 4);
        comes("{{1,2},@{3,%x.x}}", 3, 0, 3, 3, 0, 1, 0, 2, 4, 3, 0, 3, 2);
        comes("@@@@@@@@1", 4, 0, 4, 4, 4, 4, 4, 4, 4, 4, 0, 1);
        sentence("21: a CELL that holds itself");
        t.modes(6);
        // without 1 in MODES a FUNCTION makes of anything what is wanted
        comes("[k=@(%x.$y.y)][u=k~(%x.x)][c=@1][v=c~(!k)c]c", 4, 1, 4, 4, 4, 4, 4, 4, 4, 4, 4, 4, 4, 4);
        sentence("21: THE FAULTS (of its TYPE)");
        type("{1,T}", 3, 103, 100, 101);
        keeps("comes", "", -1);
        keeps("comes", "1)", -2);
        keeps("comes", "_", -1);
        keeps("comes", LONG + "+1-111", -77);
        tells("comes", "?(F,1T,2)", -100, 4);
        tells("comes", "%x.xx", -101, 3);
        tells("comes", "{1,q}", -102, 3);
        tells("comes", LET + "@@{x,x}", -104, 25);
        keeps("comes", "$x.x", -200);
        sentence("21: 0 INT, 1 BOOL, 2 FUN, 3 PAIR, 4 CELL");
        comes("3", 0, 0, 0, 3);
        comes("F", 1, 0, 1, 0);
        comes("T", 1, 0, 1, 1);
        comes("%x.x", 2, 0, 2);
        comes("{1,T}", 3, 0, 3, 0, 1, 1, 1);
        comes("@F", 4, 0, 4, 1, 0);
    }

    private static void gives() {
        sentence("22: -2: x v has not the TYPE INT (or a FAULT)");
        given("a=%x.x", "b=%x.x<1", "c=1", "d=%x.{x,x}", "e=%x.$y.y", "f=%x.?(x,1,2)", "g=@(%x.x)", "h=!g");
        type("{1,T}", 3, 103, 100, 101);
        int[] answers = {0, -2, -2, -2, -2, -2, -2, 0};
        for (int x = 7; x >= 1; x--) {
            if (answers[x] != 0) {
                due("gives", t.gives(x, 1), answers[x]);
                due("finds", t.finds(x, 1), -2);
            }
        }
        row(103, 100, 101);
        due("gives", t.gives(7, 5), 0);
        row(5, 3);
        due("gives", t.gives(0, -7), 0);
        row(-7, 2);
        given("i=%b.?(T,1,?(b,2,3))");
        due("gives, a FAULT, though it would come to an int", t.gives(8, 0), -2);
        due("finds", t.finds(8, 1), -2);
        row(102, 101, 100);
        sentence("22: -200: more than 100 STEPS");
        given("a=1", "c=$f.%x.?(x=0,0,f(x-1))", "d=%x.cx", "e=%x.cx+a");
        due("gives", t.gives(2, 49), 0);
        row(0, 100);
        due("gives", t.gives(2, 50), -200);
        due("gives", t.gives(3, 48), 0);
        row(0, 100);
        due("gives", t.gives(3, 49), -200);
        due("gives", t.gives(4, 47), 0);
        row(1, 99);
        due("gives", t.gives(4, 48), -200);
        due("gives", t.gives(2, -1), -200);
        row(1, 99);
        given("f=$f.%x.1+|{T,fx}", "g=$f.%x.1+|{@T,fx}", "h=$f.%x.1+|{%y.y,fx}");
        due("gives, a BOOL being left", t.gives(5, 1), -200);
        due("gives, a CELL being left", t.gives(6, 1), -200);
        due("gives, a FUNCTION being left", t.gives(7, 1), -200);
        sentence("22: -201: it GOES WRONG, or comes to what is no int");
        t.modes(6);
        given("a=%n.[c=@(%x.x)][d=c~(%x.T)](!c)n", "b=%n.[c=@(%x.x)][d=c~(%x.?(x,T,F))](!c)n",
                "c=%n.?(n<9,a(n+1),n)");
        type("{1,T}", 3, 103, 100, 101);
        due("gives", t.gives(0, 0), -201);
        due("gives", t.gives(1, 0), -201);
        due("gives", t.gives(2, 8), -201);
        row(103, 100, 101);
        due("gives", t.gives(2, 9), 0);
        row(9, 2);
        due("finds", t.finds(2, 9), 9);
        row(1);
        due("finds", t.finds(0, 1), -2);
        row(1);
    }

    private static void finds() {
        sentence("23: the least v (0 .. 12); -2: for none");
        given("a=%x.x", "b=%x.5", "c=%x.x-12", "d=%x.?(x<12,0,1)", "e=%x.?(x<1,1,0)", "f=$f.%x.?(x=3,3,f3+x)");
        due("finds", t.finds(0, 0), 0);
        row(1);
        due("finds", t.finds(0, 12), 12);
        row(1);
        due("finds", t.finds(0, 13), -2);
        due("finds", t.finds(0, -1), -2);
        row(1);
        due("finds", t.finds(1, 5), 0);
        row(13);
        due("finds", t.finds(1, 4), -2);
        row(13);
        due("finds", t.finds(2, 0), 12);
        row(1);
        due("finds", t.finds(2, -12), 0);
        row(1);
        due("finds", t.finds(2, 1), -2);
        due("finds", t.finds(2, -13), -2);
        due("finds", t.finds(3, 1), 12);
        row(1);
        due("finds", t.finds(3, 0), 0);
        row(12);
        due("finds", t.finds(4, 0), 1);
        row(12);
        due("finds", t.finds(5, 3), 0);
        row(2);
        for (int w : FAR) {
            due("finds", t.finds(0, w), -2);
        }
        row(2);
    }

    // ---- which definition it was

    private static void heard() {
        sentence("24: Refused: others");
        int[] highest = {5, 24, 9, 1, 9};
        for (int what = 0; what <= 4; what++) {
            due("heard", t.heard(what, -1), -1);
            due("heard", t.heard(what, highest[what] + 1), -1);
            due("heard", t.heard(what, Integer.MIN_VALUE), -1);
            due("heard", t.heard(what, Integer.MAX_VALUE), -1);
            due("heard", t.count(5), 2 * what);
            due("heard", t.heard(what, 0), 2 * what + 1);
            due("heard", t.heard(what, highest[what]), 2 * what + 2);
        }
        for (int what : new int[] {-1, 5, 100, Integer.MIN_VALUE, Integer.MAX_VALUE}) {
            due("heard", t.heard(what, 0), -1);
        }
        sentence("24: Refused: 12");
        due("heard", t.count(5), 0);
        for (int i = 1; i <= 12; i++) {
            due("heard", t.heard(1, 0), i);
        }
        due("the thirteenth", t.heard(1, 0), -1);
        due("the thirteenth", t.heard(0, 5), -1);
        due("others", t.heard(5, 0), -1);
        due("count", t.count(5), 12);
        sentence("25: It is forgotten: how many there were");
        due("forget", t.forget(), 0);
        for (int i = 1; i <= 12; i++) {
            t.heard(1, 24);
        }
        due("forget", t.forget(), 12);
        due("forget", t.forget(), 0);
        due("heard", t.count(5), 0);
        given("a=1");
        due("fits", t.fits(), 1);
        due("heard", t.heard(1, 1), 1);
        sentence("24: of what was heard the twelfth, too");
        given("a=1", "b=T");
        for (int i = 1; i <= 11; i++) {
            t.heard(1, 0);
        }
        due("fits", t.fits(), 3);
        due("heard", t.heard(0, 1), 12);
        due("fits", t.fits(), 2);
        due("heard", t.heard(0, 0), -1);
        due("fits", t.fits(), 2);
        // it can be asked then, too
        due("asks", t.asks(), 0);
    }

    private static void fitting() {
        sentence("24: 1: NODES are v (0 .. 24) or more");
        answers("defines", "a=" + LET + "@{x,x}", 24);
        answers("defines", "b=" + LET + "{x,x}", 23);
        given("c=1");
        int[] least = {0, 1, 2, 23, 24};
        int[] fit = {7, 7, 3, 3, 1};
        for (int i = 0; i < least.length; i++) {
            t.forget();
            t.heard(1, least[i]);
            due("fits", t.fits(), fit[i]);
            row(Integer.bitCount(fit[i]));
        }
        sentence("24: 2: it has v (0 .. 9) GENERAL VARIABLES; 4: as definition(), 4, it is v");
        String many = "[a=%a.%b.%c.%d.%e.$y.y]@{a,a}";
        t.modes(6);
        given("a=" + many, "b=%a.%b.%c.%d.%e.%f.%g.%h.1", "c=1", "d=[b=%a.%b.%c.%d.%e.%f.%g.1]{b,%x.$y.y}");
        due("GENERAL ones", t.definition(0, 2), 12);
        due("GENERAL ones", t.definition(3, 2), 9);
        int[] generals = {4, 0, 0, 0, 0, 0, 0, 0, 2, 8};
        int[] through = {1 + 4 + 8, 0, 0, 0, 0, 0, 0, 0, 2, 0};
        for (int v = 0; v <= 9; v++) {
            t.forget();
            t.heard(2, v);
            due("fits", t.fits(), generals[v]);
            t.forget();
            t.heard(4, v);
            due("fits", t.fits(), through[v]);
        }
        sentence("24: 0: INT, BOOL, FUN, PAIR, CELL, a VARIABLE; 3: it is a VALUE (1) or not (0)");
        given("a=1", "b=T", "c=%x.x", "d={1,1}", "e=@1", "f=$x.x");
        t.modes(6);
        given("g=$x.x");
        for (int v = 0; v <= 5; v++) {
            t.forget();
            t.heard(0, v);
            due("fits", t.fits(), v == 5 ? 32 + 64 : 1 << v);
        }
        t.forget();
        t.heard(3, 1);
        due("fits", t.fits(), 15);
        t.heard(3, 0);
        due("fits", t.fits(), 0);
        row(0);
        sentence("26: DEFINITIONS that fit all that was heard now");
        given("a=@(%x.x)");
        t.heard(1, 5);
        due("fits", t.fits(), 0);
        given("b=(!a){1,1}");
        due("fits", t.fits(), 1);
        row(1);
        t.undo();
        due("fits", t.fits(), 0);
        row(0);
    }

    private static void asks() {
        sentence("27: -2: none fits");
        type("{1,T}", 3, 103, 100, 101);
        due("asks", t.asks(), -2);
        row(103, 100, 101);
        given("a=1");
        due("asks", t.asks(), 0);
        row(1);
        t.heard(0, 1);
        type("{1,T}", 3, 103, 100, 101);
        due("asks", t.asks(), -2);
        row(103, 100, 101);
        sentence("27: of equal ones the least");
        given("a=1", "b=T");
        due("asks", t.asks(), 0);
        row(1);
        sentence("27: it is so or not, the fewest are left at most");
        given("a=1", "b=2", "c=@1", "d=@@1");
        due("asks", t.asks(), 0);
        row(2);
        given("e=@@2", "f=@@@1");
        // three have three NODES or more, two alone are INT
        due("asks", t.asks(), 103);
        row(3);
        sentence("27: 100 times what and v, as they may be heard");
        given("a=%x.1", "b=%x.x+1");
        due("asks", t.asks(), 200);
        row(1);
        sentence("27: the last v of each what");
        given("a=1", "b=T", "c=$x.x", "d=$x.x");
        due("asks", t.asks(), 5);
        row(2);
        sentence("27: the last v of each what, NODES");
        answers("defines", "a=" + LET + "@{x,x}", 24);
        answers("defines", "b=" + LET + "@{x,{{1,1},{{1,1},@1}}}", 23);
        due("asks", t.asks(), 124);
        row(1);
        sentence("27: the last v of each what, GENERAL VARIABLES");
        String eight = "=%a.%b.%c.%d.%e.%f.%g.%h.";
        given("j=%x.$y.y", "a" + eight + "j1", "b" + eight + "j2", "c" + eight + "1", "d" + eight + "h+1");
        // all but j have 17 NODES
        t.heard(1, 17);
        due("asks", t.asks(), 209);
        row(2);
        sentence("27: the last v of each what, FUNs");
        String seven = "=%a.%b.%c.%d.%e.%f.%g.?(a+b+c+d<e+f+g,";
        given("i=%x.%y.x+y", "h=%x.{x,x+0}", "j={1,{1,1}}", "a" + seven + "i,i)", "b" + seven + "i,i)",
                "c" + seven + "h,h)", "d" + seven + "j,j)");
        // all but h, i and j have 19 NODES
        t.heard(1, 19);
        due("asks", t.asks(), 409);
        row(2);
        sentence("27: all ten are left");
        for (char c = 'a'; c <= 'j'; c++) {
            given(c + "=1");
        }
        due("asks", t.asks(), 0);
        row(10);
        sentence("27: the last that may be asked");
        given("a=1", "b=1+1");
        due("asks", t.asks(), 300);
        row(1);
    }

    // ---- other modes

    private static void law() {
        sentence("28: MODES v (0 .. 7); NONE: another v");
        given("a=%x.x", "b={a1,aT}", "c=aa", "d=[i=%x.x]{i1,iT}", "e=[i=aa]i");
        type("{1,T}", 3, 103, 100, 101);
        due("law(-1)", t.law(-1), -1);
        due("law(8)", t.law(8), -1);
        for (int v : FAR) {
            due("law(" + v + ")", t.law(v), -1);
        }
        row(103, 100, 101);
        int[] left = {2 + 4 + 8 + 16, 2 + 4 + 8 + 16, 2 + 4 + 16, 2 + 4 + 16, 8, 8, 0, 0};
        int[] others = {1, 1, 1, 1, 2, 0, 2, 0};
        for (int v = 0; v <= 7; v++) {
            due("law(" + v + ")", t.law(v), Integer.bitCount(left[v]));
            row(left[v], others[v]);
            due("MODES", t.count(2), 7);
        }
        sentence("28: (-105, too)");
        t.modes(6);
        given("a=@@(%x.x)", "b=(!!a)" + ELEVEN, "c=b");
        due("law", t.law(7), 2);
        row(2 + 4, 1);
        due("law", t.law(6), 0);
        row(0, 0);
        sentence("28: -105, 24 NODES");
        t.modes(6);
        given("a=@(%x.x)", "b=(!a)" + ELEVEN, "c=b");
        due("law", t.law(7), 0);
        row(0, 1);
        sentence("28: by the MODES that are, though they came by others");
        t.modes(6);
        given("a=(%x.x)(%x.x)");
        t.modes(7);
        due("law", t.law(7), 0);
        row(0, 1);
        sentence("28: no DEFINITIONS");
        due("law", t.law(7), 0);
        row(0, 0);
    }

    private static void count() {
        sentence("29: NONE for another what");
        given("j=%x.x", "a=@(%x.x)", "b=@(%x.x)");
        t.modes(3);
        t.heard(0, 0);
        t.heard(0, 0);
        t.sign(0);
        t.sign(0);
        t.end(7);
        int[] want = {512 + 3, 3, 3, 2, 11, 2, 4, 4, 7};
        for (int what = 0; what <= 8; what++) {
            due("count(" + what + ")", t.count(what), want[what]);
        }
        due("count(9)", t.count(9), -1);
        due("count(-1)", t.count(-1), -1);
        for (int what : FAR) {
            due("count(" + what + ")", t.count(what), -1);
        }
    }

    private static void rows() {
        sentence("30: NoSuchElementException: none such");
        throwsNoSuch("row(0)", o -> o.row(0));
        type("%x.@x", 4, 102, 0, 104, 0);
        due("row(0)", t.row(0), 102);
        due("row(3)", t.row(3), 0);
        throwsNoSuch("row(4)", o -> o.row(4));
        throwsNoSuch("row(-1)", o -> o.row(-1));
        for (int i : FAR) {
            throwsNoSuch("row(" + i + ")", o -> o.row(i));
        }
        // a shorter one behind a longer one
        type("T", 1, 101);
        throwsNoSuch("row(1)", o -> o.row(1));
        due("sorts", t.sorts(), 0);
        throwsNoSuch("row(0)", o -> o.row(0));
        answers("hole", LET + "_x" + TEN + "+1", 24);
        due("row(24)", t.row(24), 100);
        throwsNoSuch("row(25)", o -> o.row(25));
    }

    public static void main(String[] args) {
        newObject();
        sign();
        end();
        defines();
        tooLarge();
        weakAhead();
        modes();
        undo();
        definition();
        scheme();
        blames();
        hole();
        parts();
        noneSuch();
        general();
        generalOfParts();
        one();
        puts();
        ways();
        sorts();
        largest();
        comes();
        gives();
        finds();
        heard();
        fitting();
        asks();
        law();
        count();
        rows();
        ends("limits");
    }
}
