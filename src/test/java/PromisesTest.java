import java.util.Arrays;
import java.util.NoSuchElementException;

/** For each promise what is due, worked out by hand from the document: ordinary inputs, its edges, wrong inputs. */
public final class PromisesTest {
    private static int wrong;
    private static int asked;
    private static String promise = "";
    private static TypeLevels t;

    // ---- how it is told

    private static void promise(String name) {
        promise = name;
        t = new TypeLevels();
    }

    private static void due(String what, long got, long want) {
        asked++;
        if (got != want) {
            wrong++;
            System.out.println(promise + ": " + what + " answered " + got + ", due is " + want);
        }
    }

    private static void due(String what, boolean got, boolean want) {
        due(what, got ? 1 : 0, want ? 1 : 0);
    }

    private static void row(long... want) {
        asked++;
        long[] got = new long[t.count(7)];
        for (int i = 0; i < got.length; i++) {
            got[i] = t.row(i);
        }
        if (!Arrays.equals(got, want)) {
            wrong++;
            System.out.println(promise + ": the ROW is " + Arrays.toString(got) + ", due is " + Arrays.toString(want));
        }
    }

    private static void text(String text) {
        t.end(0);
        int n = text.length();
        for (int i = 0; i < n; i += 4) {
            int v = 0;
            for (int k = 0; k < 4; k++) {
                v = v << 8 | (i + k < n ? text.charAt(i + k) : 0);
            }
            t.sign(v);
        }
        due("end of " + text, t.end(n), true);
    }

    private static void defines(String text, int want, long... told) {
        text(text);
        due("defines " + text, t.defines(), want);
        row(told);
        due("signs left", t.count(8), 0);
    }

    private static void type(String text, int want, long... told) {
        text(text);
        due("type " + text, t.type(), want);
        row(told);
        due("signs left", t.count(8), 0);
    }

    private static void stays(String text, int want) {
        text(text);
        long[] before = new long[t.count(7)];
        for (int i = 0; i < before.length; i++) {
            before[i] = t.row(i);
        }
        due("type " + text, t.type(), want);
        row(before);
    }

    private static void blames(String text, int want, long... told) {
        text(text);
        due("blames " + text, t.blames(), want);
        row(told);
    }

    private static void hole(String text, int want, long... told) {
        text(text);
        due("hole " + text, t.hole(), want);
        row(told);
    }

    private static void parts(String text, int want, long... told) {
        text(text);
        due("parts " + text, t.parts(), want);
        row(told);
    }

    private static void comes(String text, int want, long... told) {
        text(text);
        due("comes " + text, t.comes(), want);
        row(told);
    }

    private static void noDefinition(int x, int what) {
        boolean thrown = false;
        try {
            t.definition(x, what);
        } catch (NoSuchElementException e) {
            thrown = true;
        }
        due("definition(" + x + ", " + what + ") throws", thrown, true);
    }

    private static void noRow(int i) {
        boolean thrown = false;
        try {
            t.row(i);
        } catch (NoSuchElementException e) {
            thrown = true;
        }
        due("row(" + i + ") throws", thrown, true);
    }

    private static String many(String what, int n) {
        return what.repeat(n);
    }

    // ---- texts, definitions

    private static void newObject() {
        promise("1 a new object");
        for (int what = 0; what <= 8; what++) {
            due("count(" + what + ")", t.count(what), what == 2 ? 7 : 0);
        }
        noRow(0);
        noDefinition(0, 0);
        due("NONE", TypeLevels.NONE, -1);
    }

    private static void sign() {
        promise("2 sign");
        due("sign", t.sign(0x25782E78), 4);
        due("sign", t.sign(0x2B310000), 8);
        t.end(6);
        due("type of %x.x+1", t.type(), 3);
        row(102, 100, 100);
        for (int i = 4; i <= 80; i += 4) {
            due("sign", t.sign(-1), i);
        }
        due("sign of 84", t.sign(0), -1);
        due("signs", t.count(8), 80);
        t.end(77);
        due("sign of 81", t.sign(0x31313131), -1);
        due("signs", t.count(8), 77);
        t.end(76);
        due("sign of 80", t.sign(0x31313131), 80);
        due("a sign above 127 can't stand", t.type(), -1);
        due("sign", t.sign(0x80FF0100), 4);
        due("type", t.type(), -1);
    }

    private static void end() {
        promise("3 end");
        due("end(0)", t.end(0), true);
        due("end(1)", t.end(1), false);
        due("end(-1)", t.end(-1), false);
        due("end(min)", t.end(Integer.MIN_VALUE), false);
        t.sign(0x31323334);
        due("end(5)", t.end(5), false);
        due("end(4)", t.end(4), true);
        due("end(2)", t.end(2), true);
        due("signs", t.count(8), 2);
        due("end(3)", t.end(3), false);
        due("sign behind", t.sign(0x2B312B31), 6);
        due("type of 12+1+1", t.type(), 1);
        row(100);
    }

    private static void defines() {
        promise("4 defines");
        defines("a=%x.x", 3, 102, 0, 0);
        defines("b=%x.%y.x", 5, 102, 0, 102, 1, 0);
        defines("c=(%x.x)(%x.x)", 3, 102, 1000, 1000);
        defines("d=@(%x.x)", 4, 104, 102, 1001, 1001);
        due("weak", t.count(3), 2);
        // c says what it is: an int
        defines("e=c1", 1, 100);
        t.scheme(2);
        row(102, 100, 100);
        t.scheme(3);
        row(104, 102, 1000, 1000);
        due("weak", t.count(3), 1);
        // d becomes a cell of functions of pairs
        defines("f=%x.{(!d){x,x},x}", 7, 102, 1000, 103, 103, 1000, 1000, 1000);
        promise("4 defines, faults");
        defines("", -1);
        defines("k=1", -1);
        defines("A=1", -1);
        defines("a", -2);
        defines("a1", -2);
        defines("a=", -3);
        defines("a=+", -3);
        defines("a=1)", -4);
        defines("a=_", -3);
        defines("a=1T", -100, 2);
        defines("a=%x.xx", -101, 5);
        defines("a=x", -102, 2);
        defines("a=a", -102, 2);
        due("none came", t.count(1), 0);
        due("nothing to undo", t.count(6), 0);
        defines("a=1", 1, 100);
        defines("a=1T", -103, 100);
        defines("a=2", -103, 100);
        defines("a=+", -3, 100);
        // three digits by eight factors; a ninth can't stand
        defines("b=" + many("1", 75), -27, 100);
        due("b is none", t.scheme(1), -1);
        promise("4 defines, the 76th sign");
        // 1+1+..+1 in parts: 74 signs of expression
        String eight = "1+1+1+1+1+1+1+1";
        String all = "(" + eight + ")+(" + eight + ")+(" + eight + ")+(" + eight + ")";
        due("that many", all.length(), 71);
        defines("a=" + all + "+11", 1, 100);
        due("signs of it", t.definition(0, 6), 74);
        defines("b=" + all + "+111", -77, 100);
        promise("4 defines, -105");
        defines("a=@(%x.x)", 4, 104, 102, 1000, 1000);
        // W0 would be 11 nodes: 2 and 22 are 24
        text("b=(!a){{1,1},{{1,1},{1,1}}}");
        due("defines", t.defines(), 11);
        due("nodes of a", t.definition(0, 1), 24);
        t.undo();
        // 12 nodes: 26
        text("b=(!a){{1,1},{{1,1},{1,@1}}}");
        due("defines", t.defines(), -105);
        row(103, 103, 100, 100, 103, 103, 100, 100, 103, 100, 100);
        due("a stays", t.scheme(0), 4);
        row(104, 102, 1000, 1000);
        due("no b", t.scheme(1), -1);
        due("undo left", t.count(6), 1);
    }

    private static void generalByModes() {
        promise("4 defines by modes");
        t.modes(3);
        defines("a=%x.x", 3, 102, 1000, 1000);
        t.modes(6);
        defines("b=(%x.x)(%x.x)", 3, 102, 0, 0);
        defines("c=@(%x.x)", 4, 104, 102, 0, 0);
        t.modes(5);
        defines("d={%x.x,%x.x}", 7, 103, 102, 0, 0, 102, 1, 1);
        defines("e={%x.x,@1}", 6, 103, 102, 1001, 1001, 104, 100);
    }

    private static void weakNumbers() {
        promise("4 weak numbers");
        defines("c=@(%x.x)", 4, 104, 102, 1000, 1000);
        defines("a=@(%x.%y.x)", 6, 104, 102, 1001, 102, 1002, 1001);
        // a letter of a definition keeps its weak ones; so does a value that is general else
        defines("b={c,%x.x}", 8, 103, 104, 102, 1000, 1000, 102, 0, 0);
        due("general of b", t.definition(1, 2), 1);
        due("weak of b", t.definition(1, 3), 1);
        // the two of a become one: two are left
        defines("d=?(T,(!a)1,%x.2)", 3, 102, 1001, 100);
        due("weak", t.count(3), 2);
        t.scheme(0);
        row(104, 102, 100, 102, 1001, 100);
        // what W0 becomes is weak as well, and comes ahead of what was 1
        defines("e=%x.%y.(!c){x,y}", 7, 102, 1000, 102, 1001, 103, 1000, 1001);
        t.scheme(3);
        row(102, 1002, 100);
        t.scheme(1);
        row(103, 104, 102, 103, 1000, 1001, 103, 1000, 1001, 102, 0, 0);
        due("weak", t.count(3), 3);
    }

    private static void modes() {
        promise("5 modes");
        due("modes(7)", t.modes(7), -2);
        due("modes(8)", t.modes(8), -1);
        due("modes(-1)", t.modes(-1), -1);
        due("modes(0)", t.modes(0), 17);
        due("modes(3)", t.modes(3), 10);
        due("modes(3)", t.modes(3), -2);
        due("count(2)", t.count(2), 3);
        due("count(6)", t.count(6), 2);
    }

    private static void undo() {
        promise("6 undo");
        due("undo", t.undo(), -1);
        defines("a=@(%x.x)", 4, 104, 102, 1000, 1000);
        defines("b=(!a)1", 1, 100);
        t.modes(6);
        due("undo", t.undo(), 2);
        due("modes", t.count(2), 7);
        due("undo", t.undo(), 1);
        t.scheme(0);
        row(104, 102, 1000, 1000);
        due("b", t.scheme(1), -1);
        defines("b=2", 1, 100);
        t.heard(3, 1);
        due("undo", t.undo(), 1);
        due("heard stays", t.count(5), 1);
        due("undo", t.undo(), 0);
        due("undo", t.undo(), -1);
        due("none", t.count(0), 0);
        promise("6 undo, 24 are kept");
        defines("a=1", 1, 100);
        for (int i = 0; i < 24; i++) {
            due("modes", t.modes(i % 2 == 0 ? 0 : 7), i % 2 == 0 ? 17 : 10);
        }
        due("kept", t.count(6), 24);
        for (int i = 23; i >= 0; i--) {
            due("undo", t.undo(), i);
        }
        due("undo", t.undo(), -1);
        due("a stays", t.count(0), 1);
        due("modes", t.count(2), 7);
    }

    private static void definition() {
        promise("7 definition");
        defines("j=%x.%y.{x,{y,x}}", 9, 102, 0, 102, 1, 103, 0, 103, 1, 0);
        defines("b={@(%x.x),%z.T}", 8, 103, 104, 102, 1000, 1000, 102, 1001, 101);
        int[] ofJ = {0, 9, 2, 0, 2, 1, 15};
        int[] ofB = {1, 8, 0, 2, 0, 0, 14};
        for (int what = 0; what <= 6; what++) {
            due("definition(9, " + what + ")", t.definition(9, what), ofJ[what]);
            due("definition(1, " + what + ")", t.definition(1, what), ofB[what]);
        }
        defines("c=%f.%x.(fx)1", 9, 102, 102, 0, 102, 100, 1, 102, 0, 1);
        due("through the second parts alone", t.definition(2, 4), 2);
        defines("d=({1,{T,%x.x}})", 7, 103, 100, 103, 101, 102, 0, 0);
        due("a pair of values in ( )", t.definition(3, 5), 1);
        defines("e=$x.1", 1, 100);
        due("itself is no value", t.definition(4, 5), 0);
        defines("f=[x=1]x", 1, 100);
        due("a let is no value", t.definition(5, 5), 0);
        defines("g=j", 9, 102, 0, 102, 1, 103, 0, 103, 1, 0);
        due("a letter is a value", t.definition(6, 5), 1);
        defines("h={1,1+1}", 3, 103, 100, 100);
        due("no pair of values", t.definition(7, 5), 0);
        noDefinition(0, 0);
        noDefinition(10, 0);
        noDefinition(-1, 0);
        noDefinition(9, 7);
        noDefinition(9, -1);
        noDefinition(Integer.MAX_VALUE, Integer.MIN_VALUE);
    }

    private static void scheme() {
        promise("8 scheme");
        defines("c=%x.%y.x", 5, 102, 0, 102, 1, 0);
        type("1", 1, 100);
        due("scheme", t.scheme(2), 5);
        row(102, 0, 102, 1, 0);
        due("scheme", t.scheme(0), -1);
        due("scheme", t.scheme(10), -1);
        due("scheme", t.scheme(-1), -1);
        row(102, 0, 102, 1, 0);
    }

    // ---- types of expressions

    private static void type() {
        promise("9 type");
        type("1", 1, 100);
        type("T", 1, 101);
        type("%x.x", 3, 102, 0, 0);
        type("$x.x", 1, 0);
        type("$f.%x.?(x<1,0,x+f(x-1))", 3, 102, 100, 100);
        type("[x=%y.y]{x1,xT}", 3, 103, 100, 101);
        type("{1,F}", 3, 103, 100, 101);
        type("&{1,F}", 1, 100);
        type("|{1,F}", 1, 101);
        type("@1", 2, 104, 100);
        type("!@T", 1, 101);
        type("@1~2", 1, 100);
        type("1+2-3", 1, 100);
        type("1+2<3-4", 1, 101);
        type("1=1", 1, 101);
        type("?(T,1,2)", 1, 100);
        type("%p.{|p,&p}", 7, 102, 103, 0, 1, 103, 1, 0);
        type("%f.%x.f(fx)", 7, 102, 102, 0, 0, 102, 0, 0);
        type("%c.%x.c~x", 6, 102, 104, 0, 102, 0, 0);
        type("(%x.%y.%z.xz(yz))(%a.%b.a)", 5 + 2, 102, 102, 0, 1, 102, 0, 0);
        promise("9 type, faults and places");
        type("1T", -100, 0);
        type("(1)T", -100, 1);
        type("((1)T)2", -100, 2);
        type("T+1", -100, 0);
        type("1+T", -100, 0);
        type("1+2+T", -100, 0);
        type("{1,T+1}", -100, 3);
        type("?(1,2,3)", -100, 0);
        type("2+?(T,1,F)", -100, 2);
        type("&1", -100, 0);
        type("{1,|T}", -100, 3);
        type("!T", -100, 0);
        type("1~2", -100, 0);
        type("@1~T", -100, 0);
        type("1<T", -100, 0);
        type("{T,T=1}", -100, 3);
        type("%x.xx", -101, 3);
        type("1+$x.{x,x}", -3, 3);
        type("$x.{x,x}", -101, 0);
        type("{1,$x.@x}", -101, 3);
        type("%x.y", -102, 3);
        type("a", -102, 0);
        type("[x=x]1", -102, 3);
        // what was found first is told first
        type("{1T,q}", -100, 1);
        type("{q,1T}", -102, 1);
        // eleven leaves
        text("{{{1,1},{1,1}},{{1,1},{1,{1,{1,{1,1}}}}}}");
        due("ten pairs", t.type(), 21);
        type("[x={{{1,1},{1,1}},{{1,1},{1,1}}}]@{x,1}", 18,
                104, 103, 103, 103, 103, 100, 100, 103, 100, 100, 103, 103, 100, 100, 103, 100, 100, 100);
        text("[x={{1,1},{{1,1},{1,1}}}]@{x,x}");
        due("24 nodes", t.type(), 24);
        type("[x={{1,1},{{1,1},{1,1}}}]@{x,@x}", -104, 25);
        type("[x={{1,1},{{1,1},{1,1}}}]@{@x,@x}", -104, 26);
        type("[x={{1,1},{{1,1},{1,1}}}]@(@{x,x})", -104, 25);
        type("[x={{{1,1},{1,1}},{{1,1},{1,1}}}]1+({x,x}1)", -104, 36);
    }

    private static void typeSyntax() {
        promise("9 type, signs that can't stand");
        stays("", -1);
        stays(")", -1);
        stays("_", -1);
        stays("A", -1);
        stays("%", -2);
        stays("%1", -2);
        stays("%x", -3);
        stays("%x.", -4);
        stays("%x,", -3);
        stays("[x=1", -5);
        stays("[x=1]", -6);
        stays("[x1", -3);
        stays("1%x.x", -2);
        stays("1~%x.x", -3);
        stays("1+", -3);
        stays("1+[", -3);
        stays("1<2<3", -4);
        stays("1=2=3", -4);
        stays("1~2~3", -4);
        stays("{1}", -3);
        stays("{1,2,3}", -5);
        stays("?1", -2);
        stays("?(1,2)", -6);
        stays("&", -2);
        stays("&%x.x", -2);
        stays("1 ", -2);
        stays("(1", -3);
        stays("1))", -2);
        // a fault of types behind a sign that can't stand is not asked for
        stays("1T)", -3);
        type("1+1+1+1+1+1+1+1", 1, 100);
        stays("1+1+1+1+1+1+1+1+1", -16);
        stays("1+1+1+1+1+1+1+1-1", -16);
        type("%f.fffffff", -101, 3);
        text("%f.$g.gffffffff");
        due("nine factors", t.type(), -15);
        type("((((((((1))))))))", 1, 100);
        stays("(((((((((1)))))))))", -9);
        type("(((((((&{1,1})))))))", -9, 100);
        type("&&&&&&&&1", -100, 7);
        stays("&&&&&&&&&1", -9);
        stays("%a.%b.%c.%d.%e.%f.%g.%h.%i.i", -25);
        type("(((((((?(T,1,2))))))))", 1, 100);
        stays("((((((((?(T,1,2)))))))))", -9);
        type("((1))+((1))+((((((((1))))))))", 1, 100);
        // each with all that belongs to it: seven are open around, then one more
        String[] ones = {"[x=1]2", "[x=(1)]2", "[x=1](2)", "{1,2}", "{(1),2}", "{1,(2)}", "?(T,1,2)", "?((T),1,2)",
            "?(T,(1),2)", "?(T,1,(2))", "%x.1", "%x.(1)", "$x.1", "$x.(1)", "&{1,2}", "&a"};
        int[] at = {0, 3, 5, 0, 1, 3, 0, 2, 4, 6, 0, 3, 0, 3, 1, 0};
        for (int i = 0; i < ones.length; i++) {
            boolean two = at[i] > 0;
            text("(((((((" + ones[i] + ")))))))");
            int answer = t.type();
            due("seven around " + ones[i], answer < -8 && answer > -40, two);
            text("((((((" + ones[i] + "))))))");
            answer = t.type();
            due("six around " + ones[i], answer > 0 || answer == -102, true);
            stays("(((((((" + (two ? "" : "(") + ones[i] + ")))))))", -1 - (7 + (two ? at[i] : 1)));
        }
        type("1234", -100, 0);
        type("%x.x+123", 3, 102, 100, 100);
        promise("9 type, 76 signs");
        String eight = "1+1+1+1+1+1+1+1";
        String all = "(" + eight + ")+(" + eight + ")+(" + eight + ")+(" + eight + ")";
        type(all + "+1+1+1", -77);
        type(all + "+1+1", 1, 100);
        type(all + "+111", 1, 100);
        // 111 put to 1
        type(all + "+1111", -100, 72);
    }

    private static void lets() {
        promise("9 type, what is let");
        type("%x.[y=x]{y,y}", 5, 102, 0, 103, 0, 0);
        type("%x.[y=%z.x]{y1,yT}", 5, 102, 0, 103, 0, 0);
        type("[f=(%x.x)(%x.x)]{f1,fT}", -100, 20);
        type("[f=@(%x.x)](!f)1", 1, 100);
        type("[f={%x.x,%x.x}]{(&f)1,(&f)T}", 3, 103, 100, 101);
        type("[f=%x.x][g=f]{g1,gT}", 3, 103, 100, 101);
        // shadows: the innermost first
        type("%x.[x=1]x", 3, 102, 0, 100);
        type("[x=T]%x.x+1", 3, 102, 100, 100);
        // a letter that is not general in a let around
        type("[f=(%x.x)(%x.x)][g=%y.fy]{g1,g2}", 3, 103, 100, 100);
        type("[f=(%x.x)(%x.x)][g=%y.fy]{g1,gT}", -100, 29);
        t.modes(5);
        type("[f=%x.x]{f1,fT}", -100, 12);
        type("[f=%x.x]{f1,f2}", 3, 103, 100, 100);
        t.modes(6);
        type("[f=(%x.x)(%x.x)]{f1,fT}", 3, 103, 100, 101);
        t.modes(4);
        type("[f=%x.x]{f1,fT}", -100, 12);
        promise("9 type, weak ones");
        defines("a=@(%x.x)", 4, 104, 102, 1000, 1000);
        type("a", 4, 104, 102, 1000, 1000);
        type("!a", 3, 102, 1000, 1000);
        type("(!a)1", 1, 100);
        type("{(!a)1,(!a)T}", -100, 8);
        // a question is forgotten
        type("(!a)T", 1, 101);
        // what a weak one became of is weak then
        type("%x.%y.(!a){x,y}", 7, 102, 1000, 102, 1001, 103, 1000, 1001);
        type("{%x.x,a}", 8, 103, 102, 0, 0, 104, 102, 1000, 1000);
        type("[f=%z.!a]{(f1)1,(f1)T}", -100, 17);
        type("[f=%z.!a](f1)T", 1, 101);
        type("[f=%z.!a]f", 5, 102, 0, 102, 1000, 1000);
    }

    private static void blames() {
        promise("10 blames");
        blames("1", -2);
        blames("1T", 1, 0);
        blames("1+T", 1, 2);
        blames("T+T", 0);
        blames("?(1,T,T)", 1, 2);
        blames("?(T,1,F)", 2, 4, 6);
        blames("%x.xx", 2, 3, 4);
        blames("x", 1, 0);
        blames("{x,y}", 0);
        // a letter as a HOLE is as one bound by %: it is not general
        blames("[f=x]{f1,fT}", 0);
        blames("[f=%x.x+1]{f1,fT}", 3, 6, 14, 15);
        blames("[x={1,%y.y}]{(&x)1,{(|x)1,(|x)T}}", 1, 15);
        blames("12T", 1, 0);
        blames("1234", 1, 0);
        blames("(%x.x+1)T", 2, 4, 8);
        blames("1+1+1+1+1+1+1+(1T)", 1, 15);
        blames("?(T,{1,{1,{1,{1,{1,{1,{1,1}}}}}}},2)", 1, 34);
        blames("(%x.xx)1", 1, 4);
        blames("", -1, 4);
        blames("1+", -3, 4);
        blames("_", -1, 4);
        blames("T", -2, 4);
        defines("a=1", 1, 100);
        blames("aT", 1, 0);
        due("signs left", t.count(8), 0);
        promise("10 blames, the first 14");
        blames("[y=%x.x]?(yT,y1,yT)", 5, 6, 13, 14, 16, 17);
        blames("[y=%x.x]1+yyyyyyy(yyyyyyyT)", 15, 10, 11, 12, 13, 14, 15, 16, 18, 19, 20, 21, 22, 23, 24);
    }

    private static void hole() {
        promise("11 hole");
        hole("1", 0);
        hole("_", 1, 0, 0);
        hole("_+1", 1, 0, 100);
        hole("_1", 3, 0, 102, 100, 0);
        hole("{_,_+1}", 1, 0, 100);
        hole("_T", 3, 0, 102, 101, 0);
        hole("1T", -100, 0);
        hole("__", -101, 0);
        hole("q", -102, 0);
        hole("_)", -2, 0);
        defines("a=%x.x", 3, 102, 0, 0);
        defines("b=1", 1, 100);
        defines("c=@(%x.x)", 4, 104, 102, 1000, 1000);
        defines("e=(%x.x)(%x.x)", 3, 102, 1001, 1001);
        hole("_", 1, 1 + 2 + 4 + 16, 0);
        hole("_+b", 1, 2, 100);
        hole("_1", 3, 1 + 16, 102, 100, 0);
        hole("_1+1", 3, 1 + 16, 102, 100, 100);
        hole("?(_1,1,2)", 3, 0, 102, 100, 101);
        hole("c~_", 3, 1 + 16, 102, 1000, 1000);
        hole("{_1,e}", 3, 1 + 16, 102, 100, 0);
        hole("{_1,e2}", 3, 1 + 16, 102, 100, 0);
        hole("{_1,eT}", 3, 1, 102, 100, 0);
        // a HOLE is as a letter bound by % around all: not general, and no VALUE
        hole("[f=%x._]{f1,f1+1}", 1, 2, 100);
        hole("[f=_]{f1,fT}", -100, 9);
        hole("[f={_,%y.y}]{(|f)1,(|f)2}", 1, 1 + 2 + 4 + 16, 0);
        hole("[f={_,%y.y}]{(|f)1,(|f)T}", -100, 20);
        hole("", -1, 20);
        hole("b", 0);
        due("the ROW is empty", t.count(7), 0);
        promise("11 hole, 24 nodes");
        type("1", 1, 100);
        // 2 and 11 and 11 are 24
        text("[x={{1,1},{{1,1},{1,1}}}]{_x,_x}");
        due("hole", t.hole(), 13);
        type("1", 1, 100);
        hole("[x={{1,1},{{1,1},{1,1}}}]_xxx", -105, 100);
        text("[x={{1,1},{{1,1},{1,1}}}]_xx1<1");
        due("hole", t.hole(), -105);
        text("[x={{1,1},{1,1}}]_xx1<1");
        due("hole", t.hole(), 1 + 7 + 1 + 7 + 1 + 1 + 1);
        text("[x={{1,1},{{1,1},{1,1}}}]_x{{1,1},{{1,1},@1}}+1");
        due("24 nodes", t.hole(), 24);
        text("[x={{1,1},{{1,1},{1,1}}}]_xx+1");
        due("25 nodes", t.hole(), -105);
    }

    private static void parts() {
        promise("12 parts");
        parts("1", 1, 1);
        parts("%x.x", 2, 1, 3);
        parts("%x.%y.x", 3, 1, 3, 5);
        // the letter and what it became when all was found
        parts("%x.x+1", 4, 1, 1, 1, 3);
        parts("(%x.x)1", 4, 1, 3, 1, 1);
        parts("(%x.x){1,1}", 6, 3, 7, 1, 1, 3, 3);
        parts("%f.f12", 4, 3, 1, 1, 5);
        parts("%f.f1(2)", 6, 5, 1, 3, 1, 1, 7);
        parts("1+2+3", 5, 1, 1, 1, 1, 1);
        parts("((1))", 1, 1);
        parts("?(T,{1,2},$x.x)", 7 + 1 - 1, 1, 1, 1, 3, 3, 3, 3);
        parts("[x=1]x", 3, 1, 1, 1);
        parts("&{1,T}", 4, 1, 1, 3, 1);
        parts("@1~2", 4, 1, 2, 1, 1);
        parts("!@T", 3, 1, 2, 1);
        parts("1+1+1+1+1+1+1+1", 15, 1, 1, 1, 1, 1, 1, 1, 1, 1, 1, 1, 1, 1, 1);
        parts("1T", -100, 0);
        parts("x", -102, 0);
        parts("1+", -3, 0);
        parts("", -1, 0);
        promise("12 parts, -105");
        parts("1", 1, 1);
        parts("[x={{1,1},{{1,1},{1,1}}}](%f.fxx+1)", -104, 26);
        // f becomes a function from 11 nodes twice: 25 in the end, though each part had fewer when it was found
        parts("[x={{1,1},{{1,1},{1,1}}}][f=$z.z]fxx+1", -105, 26);
        text("[x={{1,1},{{1,1},{1,T}}}][f=$z.z]fx+1");
        due("parts", t.parts(), 11 + 2 + 5 + 1 + 1);
        row(1, 1, 3, 1, 1, 3, 1, 1, 3, 7, 11, 13, 13, 13);
        text("[x={{1,1},{{1,1},{1,1}}}]@{x,x}");
        due("24 nodes", t.parts(), 16);
        row(1, 1, 3, 1, 1, 3, 1, 1, 3, 7, 11, 11, 11, 23);
    }

    // ---- definitions among themselves

    private static void general() {
        promise("13 general");
        defines("a=%x.x", 3, 102, 0, 0);
        defines("b=%x.x+1", 3, 102, 100, 100);
        defines("c=%x.%y.x", 5, 102, 0, 102, 1, 0);
        defines("d=%x.%y.?(T,x,y)", 5, 102, 0, 102, 0, 0);
        defines("e=$x.x", 1, 1000);
        defines("f=(%x.x)(%x.x)", 3, 102, 1001, 1001);
        defines("g=%x.$y.y", 3, 102, 0, 1);
        due("a a", t.general(0, 0), 1);
        due("a b", t.general(0, 1), 1);
        due("b a", t.general(1, 0), 0);
        due("a c", t.general(0, 2), 0);
        due("c d", t.general(2, 3), 1);
        due("d c", t.general(3, 2), 0);
        due("a f", t.general(0, 5), 1);
        due("f a", t.general(5, 0), 0);
        due("f f", t.general(5, 5), 1);
        due("f b", t.general(5, 1), 0);
        due("e a: weak stays", t.general(4, 0), 0);
        due("e e", t.general(4, 4), 1);
        due("e f", t.general(4, 5), 0);
        due("g c", t.general(6, 2), 1);
        due("g a", t.general(6, 0), 1);
        due("a g", t.general(0, 6), 0);
        due("none", t.general(0, 7), -1);
        due("none", t.general(7, 0), -1);
        due("none", t.general(-1, 0), -1);
        due("none", t.general(0, 10), -1);
        row(102, 0, 1);
    }

    private static void one() {
        promise("14 one");
        defines("a=%x.%y.x", 5, 102, 0, 102, 1, 0);
        defines("b=%x.%y.y", 5, 102, 0, 102, 1, 1);
        defines("c=%x.x+1", 3, 102, 100, 100);
        defines("d=%x.x", 3, 102, 0, 0);
        defines("e=@(%x.x)", 4, 104, 102, 1000, 1000);
        defines("f=@(%x.1)", 4, 104, 102, 1001, 100);
        due("one", t.one(0, 1), 5);
        row(102, 0, 102, 0, 0);
        due("one", t.one(3, 2), 3);
        row(102, 100, 100);
        due("one", t.one(4, 5), 4);
        row(104, 102, 100, 100);
        due("a question", t.scheme(4), 4);
        row(104, 102, 1000, 1000);
        due("one", t.one(0, 2), -100);
        due("one", t.one(3, 3), 3);
        row(102, 0, 0);
        defines("g=%x.{x,x}", 5, 102, 0, 103, 0, 0);
        due("one", t.one(3, 6), -101);
        row(102, 0, 103, 0, 0);
        due("none", t.one(3, 7), -1);
        due("none", t.one(10, 3), -1);
        promise("14 one, -105");
        defines("a=%x.{x,x}", 5, 102, 0, 103, 0, 0);
        text("b=%x.[z=?(T,x,{{1,1},{{1,1},{1,1}}})]$y.y");
        due("defines", t.defines(), 13);
        due("scheme", t.scheme(0), 5);
        due("one", t.one(0, 1), -105);
        row(102, 0, 103, 0, 0);
        // 1 and 7 and 15
        text("c=%x.[z=?(T,x,{{1,1},{1,1}})]$y.y");
        due("defines", t.defines(), 9);
        due("one", t.one(0, 2), 23);
        // 2 and 11 and 11 may be, 2 and 12 and 12 not
        defines("d=%x.@x", 4, 102, 0, 104, 0);
        due("one", t.one(3, 1), 24);
        text("e=%x.[z=?(T,x,{{1,1},{{1,1},{1,@1}}})]$y.y");
        due("defines", t.defines(), 14);
        due("one", t.one(3, 4), -105);
    }

    private static void puts() {
        promise("15 applies");
        defines("a=%x.x", 3, 102, 0, 0);
        defines("b=%x.x+1", 3, 102, 100, 100);
        defines("c=1", 1, 100);
        defines("d=%x.%y.x", 5, 102, 0, 102, 1, 0);
        due("applies", t.applies(1, 2), 1);
        row(100);
        due("applies", t.applies(0, 0), 3);
        row(102, 0, 0);
        due("applies", t.applies(3, 2), 3);
        row(102, 0, 100);
        due("applies", t.applies(2, 2), -100);
        row(0);
        due("none", t.applies(0, 4), -1);
        due("none", t.applies(4, 0), -1);
        due("none", t.applies(-1, 0), -1);
        defines("e=%x.xx", -101, 5);
        promise("15 applies, -101");
        defines("a=%f.$x.fx", 5, 102, 102, 0, 0, 0);
        defines("b=%x.@x", 4, 102, 0, 104, 0);
        due("applies", t.applies(0, 1), -101);
        row(0);
        promise("16 behind");
        defines("a=%x.x<1", 3, 102, 100, 101);
        defines("b=%x.x+1", 3, 102, 100, 100);
        defines("c=%x.x", 3, 102, 0, 0);
        defines("d=1", 1, 100);
        due("behind", t.behind(0, 1), 3);
        row(102, 100, 101);
        due("behind", t.behind(2, 2), 3);
        row(102, 0, 0);
        due("behind", t.behind(1, 0), -100);
        row(3);
        due("behind", t.behind(0, 3), -100);
        row(5);
        due("none", t.behind(0, 9), -1);
        due("none", t.behind(9, 0), -1);
        promise("17 flips");
        defines("a=%x.%y.x", 5, 102, 0, 102, 1, 0);
        defines("b=%x.x+1", 3, 102, 100, 100);
        due("flips", t.flips(0), 5);
        row(102, 0, 102, 1, 1);
        due("flips", t.flips(1), -100);
        row(6);
        due("none", t.flips(2), -1);
        due("none", t.flips(-7), -1);
        row(6);
    }

    private static void ways() {
        promise("18 ways");
        defines("a=1", 1, 100);
        defines("b=%x.x<1", 3, 102, 100, 101);
        defines("c=%x.?(x,@1,@2)", 4, 102, 101, 104, 100);
        defines("d=%x.{x,T}", 5, 102, 0, 103, 0, 101);
        defines("e=T", 1, 101);
        defines("f=@3", 2, 104, 100);
        defines("g={@1,F}", 4, 103, 104, 100, 101);
        due("ways 0", t.ways(0, 0), 0);
        row();
        due("ways 1", t.ways(0, 4), 1);
        row(1);
        due("ways 2", t.ways(0, 5), 2);
        row(1, 2);
        due("ways 3", t.ways(0, 6), 3);
        row(1, 2, 3);
        due("none leads", t.ways(4, 0), -2);
        row(1, 2, 3);
        due("none", t.ways(0, 7), -1);
        due("none", t.ways(7, 0), -1);
        defines("h=%x.{x,F}", 5, 102, 0, 103, 0, 101);
        due("the least row", t.ways(0, 6), 3);
        row(1, 2, 3);
        // a weak one that is what it is asked for
        defines("i=$x.x", 1, 1000);
        due("weak", t.ways(0, 8), 0);
        due("weak", t.ways(6, 0), 1);
        row(8);
        promise("18 ways, -104");
        text("a={{1,1},{{1,1},{1,1}}}");
        due("defines", t.defines(), 11);
        defines("b=%x.@{x,@x}", 7, 102, 0, 104, 103, 0, 104, 0);
        defines("c=%y.[z=!y]T", 4, 102, 104, 0, 101);
        defines("d=F", 1, 101);
        // b put to a has 25 nodes
        due("ways", t.ways(0, 3), -2);
        defines("e=%x.@{x,x}", 6, 102, 0, 104, 103, 0, 0);
        // e put to a has 24
        due("ways", t.ways(0, 3), 2);
        row(4, 2);
    }

    private static void sorts() {
        promise("19 sorts");
        due("sorts", t.sorts(), 0);
        row();
        defines("d=1", 1, 100);
        defines("c=%x.x", 3, 102, 0, 0);
        defines("b=%y.y", 3, 102, 0, 0);
        defines("a=2", 1, 100);
        due("sorts", t.sorts(), 2);
        row(2, 3);
        defines("e=(%x.x)(%x.x)", 3, 102, 1000, 1000);
        defines("f=%z.z", 3, 102, 0, 0);
        due("sorts", t.sorts(), 3);
        row(3, 2);
    }

    private static void largest() {
        promise("20 largest");
        type("1", 1, 100);
        due("largest", t.largest(), -2);
        row(100);
        defines("d=@(%x.x)", 4, 104, 102, 1000, 1000);
        defines("a=%x.@x", 4, 102, 0, 104, 0);
        defines("c=1", 1, 100);
        due("largest", t.largest(), 3);
        row(4, 1);
        defines("b=%x.%y.x", 5, 102, 0, 102, 1, 0);
        due("largest", t.largest(), 1);
        row(5, 1);
    }

    // ---- what they come to

    private static void comes() {
        promise("21 comes");
        comes("1+2-5", 0, 0, 0, -2);
        comes("T", 1, 0, 1, 1);
        comes("2<1", 1, 0, 1, 0);
        comes("2=2", 1, 0, 1, 1);
        comes("%x.x", 2, 0, 2);
        comes("{1,{F,%x.x}}", 3, 0, 3, 0, 1, 3, 1, 0, 2);
        comes("@@7", 4, 0, 4, 4, 0, 7);
        comes("(%x.x+1)2", 0, 1, 0, 3);
        comes("(%x.%y.x-y)5(3)", 0, 2, 0, 2);
        comes("&{1,T}", 0, 0, 0, 1);
        comes("|{1,T}", 1, 0, 1, 1);
        comes("[c=@1][d=c~2]{!c,d}", 3, 0, 3, 0, 2, 0, 2);
        comes("[c=@1]{c~2+!c,!c}", 3, 0, 3, 0, 3, 0, 3);
        comes("[c=@1]{c,c~5}", 3, 0, 3, 4, 0, 5, 0, 5);
        // all from the left; one of both alone
        comes("[c=@1]{!c,c~2}", 3, 0, 3, 0, 1, 0, 2);
        comes("?(F,$x.x,3)", 0, 0, 0, 3);
        comes("[x=3][f=%y.x+y][x=100]f1", 0, 1, 0, 4);
        comes("($f.%x.?(x<1,0,x+f(x-1)))3", 0, 4 + 3, 0, 6);
        comes("$x.1", 0, 0, 0, 1);
        comes("$x.x", -200, 0, 0, 1);
        comes("{{1,{2,3}},{{4,5},6}}", 3, 0, 3, 3, 0, 1, 3, 0, 2, 0, 3, 3, 3, 0);
        // the twelfth number is the first of an int, which is then told without it
        comes("{1,{2,{3,{%x.x,1}}}}", 3, 0, 3, 0, 1, 3, 0, 2, 3, 0, 3, 3, 2, 0);
        comes("1T", -100, 0);
        comes("q", -102, 0);
        comes("1+", -3, 0);
        comes("", -1, 0);
        defines("a=1", 1, 100);
        comes("a+a", 0, 2, 0, 2);
        defines("b=@a", 2, 104, 100);
        // a definition is done each time anew
        comes("[c=b~5]!b", 0, 4, 0, 1);
        defines("c=%x.a+x", 3, 102, 100, 100);
        // its letters are those where it was told
        comes("[a=7]c1", 0, 3, 0, 2);
    }

    private static void stepsAndWrongs() {
        promise("21 comes, a hundred steps");
        // %x with x: n + 1 calls and n times f asked
        comes("($f.%x.?(x<1,0,f(x-1)))49", 0, 50 + 49, 0, 0);
        comes("($f.%x.?(x<1,0,f(x-1)))50", -200, 99, 0, 0);
        comes("($f.%x.?(x<1,(%y.y)0,f(x-1)))49", 0, 100, 0, 0);
        comes("($f.%x.?(x<1,(%y.y)((%y.y)0),f(x-1)))49", -200, 100, 0, 0);
        promise("21 comes, it goes wrong");
        t.modes(6);
        comes("[c=@(%x.x)][d=c~(%x.x+1)](!c)T", -201);
        comes("[c=@(%x.x)][d=c~(%x.1-x)](!c)T", -201);
        comes("[c=@(%x.x)][d=c~(%x.?(x,T,F))](!c)1", -201);
        String[] wrongs = {"x+1", "1+x", "x-1", "x<1", "1<x", "x=1", "?(x,1,2)", "x1", "&x", "|x", "!x", "x~1"};
        for (String e : wrongs) {
            // a function is none of what these want, but the one that is put to 1
            comes("[c=@(%x.$y.y)][d=c~(%x." + e + ")](!c)" + ("x1".equals(e) ? "T" : "(%z.z)"), -201);
        }
        // both have come first
        String[] longs = {"x+($z.z)", "($z.z)+x", "x<($z.z)", "x($z.z)", "x~($z.z)"};
        for (String e : longs) {
            comes("[c=@(%x.$y.y)][d=c~(%x." + e + ")](!c)T", -200);
        }
        comes("[c=@(%x.$y.y)][d=c~(%x.x+1)](!c)2", 0, 1, 0, 3);
        comes("[c=@(%x.x)][d=c~(%x.x+1)](!c)T", -201, 1, 0, 3);
    }

    private static void gives() {
        promise("22 gives");
        defines("a=%x.x+x", 3, 102, 100, 100);
        defines("b=%x.x<1", 3, 102, 100, 101);
        defines("c=$f.%x.?(x=0,0,f(x-1))", 3, 102, 100, 100);
        defines("d=%x.x", 3, 102, 0, 0);
        defines("e=1", 1, 100);
        defines("f=%x.$y.y", 3, 102, 0, 1);
        due("gives", t.gives(0, 4), 0);
        row(8, 2);
        due("gives", t.gives(0, Integer.MAX_VALUE), 0);
        row(-2, 2);
        due("gives", t.gives(3, -5), 0);
        row(-5, 2);
        due("no int", t.gives(1, 0), -2);
        due("a fault", t.gives(4, 0), -2);
        due("a variable", t.gives(5, 0), -2);
        due("too long", t.gives(2, -1), -200);
        row(-5, 2);
        due("gives", t.gives(2, 49), 0);
        row(0, 100);
        due("too long", t.gives(2, 50), -200);
        due("none", t.gives(9, 0), -1);
        due("none", t.gives(-1, 0), -1);
        due("none", t.gives(10, 0), -1);
        row(0, 100);
        promise("22 gives, wrong");
        t.modes(6);
        defines("a=@(%x.x)", 4, 104, 102, 0, 0);
        defines("b=%n.[c=@(%x.x)][d=c~(%x.T)](!c)n", 3, 102, 0, 0);
        due("comes to what is no int", t.gives(1, 0), -201);
        defines("c=%n.[c=@(%x.x)][d=c~(%x.?(x,T,F))](!c)n", 3, 102, 0, 0);
        due("goes wrong", t.gives(2, 0), -201);
        row(102, 0, 0);
        t.modes(7);
        due("goes wrong by other modes", t.gives(2, 0), -201);
    }

    private static void finds() {
        promise("23 finds");
        defines("a=%x.?(x<5,1,x)", 3, 102, 100, 100);
        defines("b=%x.T", 3, 102, 0, 101);
        defines("c=$f.%x.?(x=7,7,fx)", 3, 102, 100, 100);
        due("finds", t.finds(0, 1), 0);
        row(5);
        due("finds", t.finds(0, 12), 12);
        row(1);
        due("finds", t.finds(0, 13), -2);
        due("finds", t.finds(0, 0), -2);
        due("finds", t.finds(1, 0), -2);
        due("others are too long", t.finds(2, 7), 7);
        row(1);
        due("none", t.finds(3, 0), -1);
        due("none", t.finds(-3, 0), -1);
        row(1);
    }

    // ---- which definition it was

    private static void heard() {
        promise("24 heard");
        int[] highest = {5, 24, 9, 1, 9};
        for (int what = 0; what <= 4; what++) {
            due("heard", t.heard(what, 0), 2 * what + 1);
            due("heard", t.heard(what, highest[what]), 2 * what + 2);
            due("heard", t.heard(what, highest[what] + 1), -1);
            due("heard", t.heard(what, -1), -1);
        }
        due("heard", t.heard(5, 0), -1);
        due("heard", t.heard(-1, 0), -1);
        due("heard", t.heard(0, 0), 11);
        due("heard", t.heard(0, 0), 12);
        due("heard", t.heard(0, 0), -1);
        due("count", t.count(5), 12);
        promise("25 forget");
        due("forget", t.forget(), 0);
        t.heard(0, 1);
        t.heard(0, 2);
        due("forget", t.forget(), 2);
        due("forget", t.forget(), 0);
        due("heard", t.heard(0, 1), 1);
    }

    private static void sixDefinitions() {
        defines("a=1", 1, 100);
        defines("b=T", 1, 101);
        defines("c=%x.x", 3, 102, 0, 0);
        defines("d={1,1+1}", 3, 103, 100, 100);
        defines("e=@1", 2, 104, 100);
        defines("f=$x.x", 1, 1000);
    }

    private static void fits() {
        promise("26 fits");
        due("fits", t.fits(), 0);
        row(0);
        sixDefinitions();
        due("fits", t.fits(), 63);
        row(6);
        for (int v = 0; v <= 5; v++) {
            t.forget();
            t.heard(0, v);
            due("fits", t.fits(), 1 << v);
            row(1);
        }
        t.forget();
        t.heard(1, 2);
        due("fits", t.fits(), 4 + 8 + 16);
        row(3);
        t.heard(3, 1);
        due("fits", t.fits(), 4);
        t.forget();
        t.heard(2, 0);
        due("fits", t.fits(), 63 - 4);
        t.forget();
        t.heard(2, 1);
        due("fits", t.fits(), 4);
        t.forget();
        t.heard(3, 0);
        due("fits", t.fits(), 8 + 16 + 32);
        t.forget();
        t.heard(4, 1);
        due("fits", t.fits(), 4);
        t.heard(4, 0);
        due("fits", t.fits(), 0);
        row(0);
        t.undo();
        t.forget();
        due("fits", t.fits(), 31);
    }

    private static void asks() {
        promise("27 asks");
        due("asks", t.asks(), -2);
        sixDefinitions();
        // nodes are 1 1 3 3 2 1: two or more parts them three to three
        due("asks", t.asks(), 102);
        row(3);
        t.heard(1, 2);
        // c, d, e: any that is one of them alone leaves two at most
        due("asks", t.asks(), 2);
        row(2);
        t.heard(0, 2);
        due("one is left", t.asks(), 0);
        row(1);
        t.heard(0, 3);
        due("none fits", t.asks(), -2);
        row(1);
        promise("27 asks, of equal ones the least");
        defines("a=1", 1, 100);
        due("asks", t.asks(), 0);
        row(1);
        defines("b=2", 1, 100);
        due("nothing parts them", t.asks(), 0);
        row(2);
        defines("c=1+1", 1, 100);
        due("a VALUE or not", t.asks(), 300);
        row(2);
        promise("27 asks, the highest number");
        text("a=[x={{1,1},{{1,1},{1,1}}}]@{x,x}");
        due("defines", t.defines(), 24);
        text("b=[x={{1,1},{{1,1},{1,1}}}]@{x,{{1,1},{{1,1},@1}}}");
        due("defines", t.defines(), 23);
        due("asks", t.asks(), 124);
        row(1);
        t.heard(1, 24);
        due("fits", t.fits(), 1);
    }

    // ---- other modes

    private static void law() {
        promise("28 law");
        due("law", t.law(7), 0);
        row(0, 0);
        due("law", t.law(8), -1);
        due("law", t.law(-1), -1);
        defines("a=%x.x", 3, 102, 0, 0);
        defines("b={a1,aT}", 3, 103, 100, 101);
        defines("c=&b", 1, 100);
        defines("d=(%x.x)(%x.x)", 3, 102, 1000, 1000);
        due("law 7", t.law(7), 0);
        row(0, 0);
        // a is weak then: b can't be, and so c; a has another type, d is numbered from 1 on
        due("law 3", t.law(3), 2);
        row(2 + 4, 2);
        due("law 6", t.law(6), 0);
        row(0, 1);
        due("law 0", t.law(0), 2);
        due("modes stay", t.count(2), 7);
        due("all stay", t.count(0), 15);
        promise("28 law, -105");
        t.modes(6);
        defines("a=@(%x.x)", 4, 104, 102, 0, 0);
        text("b=(!a){{1,1},{{1,1},{1,@1}}}");
        due("defines", t.defines(), 12);
        due("law", t.law(7), 1);
        row(2, 1);
        due("law", t.law(6), 0);
        row(0, 0);
    }

    private static void count() {
        promise("29 count");
        defines("c=%x.x", 3, 102, 0, 0);
        defines("a=@(%x.x)", 4, 104, 102, 1000, 1000);
        t.heard(3, 0);
        t.modes(5);
        t.sign(0);
        int[] want = {5, 2, 5, 1, 7, 1, 3, 4, 4};
        for (int what = 0; what <= 8; what++) {
            due("count(" + what + ")", t.count(what), want[what]);
        }
        due("count(9)", t.count(9), -1);
        due("count(-1)", t.count(-1), -1);
        due("count(max)", t.count(Integer.MAX_VALUE), -1);
    }

    private static void rows() {
        promise("30 row");
        noRow(0);
        type("%x.x", 3, 102, 0, 0);
        due("row(0)", t.row(0), 102);
        due("row(2)", t.row(2), 0);
        noRow(3);
        noRow(-1);
        noRow(Integer.MIN_VALUE);
        // calls that do not tell of it leave it
        t.modes(6);
        t.undo();
        t.heard(0, 0);
        t.forget();
        t.count(0);
        row(102, 0, 0);
    }

    public static void main(String[] args) {
        newObject();
        sign();
        end();
        defines();
        generalByModes();
        weakNumbers();
        modes();
        undo();
        definition();
        scheme();
        type();
        typeSyntax();
        lets();
        blames();
        hole();
        parts();
        general();
        one();
        puts();
        ways();
        sorts();
        largest();
        comes();
        stepsAndWrongs();
        gives();
        finds();
        heard();
        fits();
        asks();
        law();
        count();
        rows();
        System.out.println("promises: " + asked + " asked, " + wrong + " wrong");
        if (wrong > 0) {
            System.exit(1);
        }
    }
}
