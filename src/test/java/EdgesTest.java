/** Each sentence of "Terms" 1 and 2 that names an edge: the last case that may be, and the first that may not. */
public final class EdgesTest extends Tries {
    private static final String EIGHT = "1+1+1+1+1+1+1+1";
    /** 71 signs, an int. */
    private static final String LONG = "(" + EIGHT + ")+(" + EIGHT + ")+(" + EIGHT + ")+(" + EIGHT + ")";
    /** Eleven and ten NODES. */
    private static final String ELEVEN = "{{1,1},{{1,1},{1,1}}}";
    private static final String TEN = "{{1,1},{{1,1},@1}}";
    /** x has eleven NODES behind these 25 signs. */
    private static final String LET = "[x=" + ELEVEN + "]";
    /** i is general behind these 8 signs. */
    private static final String I = "[i=%x.x]";
    private static final String[] READING = {"type", "blames", "hole", "parts", "comes"};

    // ---- types and how they are told

    private static void rowsOfTypes() {
        sentence("others 0, 1, .. in the order in which they stand in the row first");
        type("%x.%y.%z.{z,{y,x}}", 11, 102, 0, 102, 1, 102, 2, 103, 2, 103, 1, 0);
        // as many as 24 NODES can have
        type("[a=%a.%b.%c.%d.%e.$y.y]@{a,a}", 24,
                104, 103, 102, 0, 102, 1, 102, 2, 102, 3, 102, 4, 5, 102, 6, 102, 7, 102, 8, 102, 9, 102, 10, 11);
        sentence("a WEAK VARIABLE 1000 and its number, in the order in which they stand first in the rows");
        for (int x = 0; x <= 9; x++) {
            char letter = (char) ('j' - x);
            answers("defines", letter + "=[a=%a.%b.%c.%d.%e.$y.y]@{a,a}", 24);
            due("the last WEAK one of " + letter, t.row(23), 1000 + 12 * x + 11);
        }
        due("WEAK ones in all", t.count(3), 120);
        due("NODES in all", t.count(4), 240);
        due("WEAK ones of one", t.definition(0, 3), 12);
        due("DEFINITIONS", t.count(0), 1023);
        // the first one becomes a pair of it and of what was the thirteenth; one of them is left out then
        answers("type", "[u=?(T,!j,!i)]j", 24);
        due("what was 1000 is 1000", t.row(3), 1000);
        answers("type", "[u=?(T,!j,!i)]h", 24);
        due("what was 1024 is 1012", t.row(3), 1012);
        t.scheme(7);
        row(104, 103, 102, 1024, 102, 1025, 102, 1026, 102, 1027, 102, 1028, 1029,
                102, 1030, 102, 1031, 102, 1032, 102, 1033, 102, 1034, 1035);
        sentence("each VARIABLE is GENERAL or WEAK");
        t.modes(6);
        answers("defines", "c=[a=%a.%b.%c.%d.%e.$y.y]@{a,a}", 24);
        due("GENERAL ones", t.definition(2, 2), 12);
        due("WEAK ones", t.definition(2, 3), 0);
    }

    // ---- texts

    private static void signsOfAText() {
        sentence("an EXPRESSION of at most 76 signs");
        String whole = LONG + "+1-11";
        due("that many", whole.length(), 76);
        type(whole, 1, 100);
        tells("hole", whole, 0);
        tells("parts", whole, 67, 1, 1, 1, 1, 1, 1, 1, 1, 1, 1, 1, 1, 1, 1);
        keeps("blames", whole, -2);
        comes(whole, 0, 0, 0, 22);
        type(LONG + "+(1T)", -100, 73);
        sentence("76, if it has more and the first 76 could go on or end");
        type("{1,T}", 3, 103, 100, 101);
        for (String call : READING) {
            keeps(call, whole + "1", -77);
            keeps(call, whole + "1111", -77);
        }
        // whatever stands behind them, and whether they end or go on
        for (char odd : new char[] {')', '_', 'A', ' ', 0, 128, 255, '+', 'a'}) {
            keeps("type", whole + odd, -77);
            keeps("type", LONG + "+1-1+" + odd, -77);
            keeps("type", LONG + "+1-(1" + odd, -77);
        }
        sentence("-1 - p: its end, if it ends too early");
        for (String call : READING) {
            keeps(call, "", -1);
            keeps(call, "{1,", -4);
            keeps(call, LONG + "+1-1+", -77);
            keeps(call, LONG + "+1-1(", -77);
            keeps(call, LONG + "+1-", -75);
        }
    }

    private static void signsThatCantStand() {
        sentence("-1 - p: the sign at p can't stand there");
        type("{1,T}", 3, 103, 100, 101);
        for (String call : READING) {
            keeps(call, LONG + "+1-1)", -76);
            // the first sign that can't stand, though there are more than 76
            keeps(call, LONG + "+1-1)111", -76);
            keeps(call, LONG + "+1-)1111", -75);
            keeps(call, ")" + whole(79), -1);
            keeps(call, "", -1);
            keeps(call, "(", -2);
            keeps(call, "1T)", -3);
        }
        for (int sign = 0; sign <= 255; sign++) {
            char c = (char) sign;
            boolean alone = c >= 'a' && c <= 'z' || c >= '0' && c <= '9' || c == 'T' || c == 'F';
            boolean begins = "%$[({?&|@!".indexOf(c) >= 0;
            int answer = reads(t, "type", String.valueOf(c));
            due("the sign " + sign + " stands first", answer >= 0 || answer <= -100, alone);
            due("the sign " + sign + " begins", answer == -2, begins);
            due("the sign " + sign + " can't stand first", answer == -1, !alone && !begins);
            if (c != '_') {
                due("hole of " + sign, reads(t, "hole", String.valueOf(c)) == -1, answer == -1);
            }
        }
        followers();
    }

    private static String whole(int signs) {
        return many("1", signs);
    }

    /** Behind each of these, each sign but those told can't stand. */
    private static void followers() {
        String letters = "abcdefghijklmnopqrstuvwxyz";
        String factors = letters + "0123456789TF({?&|@!";
        String all = factors + "%$[";
        String[] ahead = {"%", "%x", "%x.", "$", "$x", "$x.", "[", "[x", "[x=", "[x=1", "[x=1]", "(", "(1", "{", "{1",
            "{1,", "{1,1", "?", "?(", "?(1", "?(1,", "?(1,1", "?(1,1,", "?(1,1,1", "&", "|", "@", "!", "1", "1+", "1-",
            "1<", "1=", "1~", "1~1", "1<1", "1=1", "1=1~1", "1~1=1", "1<1~1<1", "(1)", "{1,1}", "?(1,1,1)", "T",
            "a", "&a", "%x.1", "[x=1]1", "$x.1~1"};
        String[] may = {letters, ".", all, letters, ".", all, letters, "=", all, factors + "+-<=~]", all, all,
            factors + "+-<=~)", all, factors + "+-<=~,", all, factors + "+-<=~}", "(", all, factors + "+-<=~,", all,
            factors + "+-<=~,", all, factors + "+-<=~)", factors, factors, factors, factors, factors + "+-<=~",
            factors, factors, factors, factors, factors, factors + "+-<=", factors + "+-~", factors + "+-~",
            factors + "+-<=", factors + "+-", factors + "+-", factors + "+-<=~", factors + "+-<=~",
            factors + "+-<=~", factors + "+-<=~", factors + "+-<=~", factors + "+-<=~", factors + "+-<=~",
            factors + "+-<=~", factors + "+-<="};
        due("as many", ahead.length, may.length);
        for (int i = 0; i < ahead.length; i++) {
            sentence("the sign at p can't stand there, behind " + ahead[i]);
            for (char c = 0; c < 256; c++) {
                int answer = reads(t, "type", ahead[i] + c);
                due("the sign " + c + " can't stand", answer == -1 - ahead[i].length(), may[i].indexOf(c) < 0);
            }
        }
    }

    private static void terms() {
        sentence("SUM: 1 to 8 TERMS; a + behind the eighth can't stand");
        comes(EIGHT, 0, 0, 0, 8);
        comes("1-1-1-1-1-1-1-1", 0, 0, 0, -6);
        for (String more : new String[] {"+1", "-1", "+", "-", "+)", "-%"}) {
            keeps("comes", EIGHT + more, -16);
            keeps("type", EIGHT + "<" + EIGHT + more, -32);
            keeps("type", EIGHT + "=" + EIGHT + more, -32);
            keeps("type", "@1~" + EIGHT + more, -19);
            keeps("type", "(" + EIGHT + more + ")", -17);
        }
        comes(EIGHT + "<" + EIGHT, 1, 0, 1, 0);
        comes(EIGHT + "=" + EIGHT, 1, 0, 1, 1);
        comes("@1~" + EIGHT, 0, 0, 0, 8);
        // those in ( ) are counted by themselves
        comes("(" + EIGHT + ")+1+1+1+1+1+1+1", 0, 0, 0, 15);
        keeps("comes", "(" + EIGHT + ")+1+1+1+1+1+1+1+1", -32);
        // none
        keeps("type", "+1", -1);
        keeps("type", "-1", -1);
        keeps("type", "1+", -3);
        keeps("type", "1++1", -3);
        keeps("type", "1<", -3);
        keeps("type", "1+<1", -3);
    }

    private static void factors() {
        sentence("TERM: 1 to 8 FACTORS");
        comes(I + "iiiiiii1", 0, 7, 0, 1);
        comes(I + "iiiiiii123", 0, 7, 0, 123);
        keeps("comes", I + "iiiiiii1234", -19);
        for (char c : "a1TF({?&|@!".toCharArray()) {
            keeps("type", I + "iiiiiiii" + c, -17);
            keeps("type", I + "1+iiiiiiii" + c + "1", -19);
        }
        keeps("hole", I + "iiiiiiii_", -17);
        tells("hole", I + "iiiiiii_", 1, 0, 0);
        // each with its signs
        type("&T&T&T&T&T&T&T&T", -100, 0);
        keeps("type", "&T&T&T&T&T&T&T&T&T", -17);
        // each TERM by itself, and what stands in ( )
        comes(I + "iiiiiii1+iiiiiii1", 0, 14, 0, 2);
        comes(I + "iiiiiii(iiiiiii1)", 0, 14, 0, 1);
        comes(I + "iiiiiii1<iiiiiii2", 1, 14, 1, 1);
        keeps("comes", I + "iiiiiii1+iiiiiiii1", -26);
    }

    private static void digits() {
        sentence("a NUMBER: 1 to 3 digits, as many as stand there");
        comes("0", 0, 0, 0, 0);
        comes("000", 0, 0, 0, 0);
        comes("007", 0, 0, 0, 7);
        comes("99", 0, 0, 0, 99);
        comes("999", 0, 0, 0, 999);
        type("1000", -100, 0);
        comes("(%x.%y.x)1234", 0, 2, 0, 123);
        comes("(%x.%y.y)1234", 0, 2, 0, 4);
        comes("(%x.%y.y)999007", 0, 2, 0, 7);
        comes("(%x.%y.%z.y)1234567", 0, 3, 0, 456);
        tells("parts", "%f.f1234", 6, 5, 1, 3, 1, 1, 7);
        // eight FACTORS of three digits; the 25th digit would be the ninth
        type(many("1", 24), -100, 0);
        keeps("type", many("1", 25), -25);
    }

    private static boolean stands(String text) {
        int answer = reads(t, "type", text);
        return answer > 0 || answer <= -100;
    }

    private static void open() {
        sentence("at most 8 of % $ [ ( { ? & | @ ! may be open at once");
        String[] one = {"%x.1", "$x.1", "[x=1]1", "(1)", "{1,1}", "?(T,1,1)", "&q", "|q", "@1", "!q"};
        for (String e : one) {
            due("the eighth stands: " + e, stands(many("(", 7) + e + many(")", 7)), true);
            keeps("type", many("(", 8) + e + many(")", 8), -9);
            keeps("hole", many("(", 8) + e + many(")", 8), -9);
        }
        sentence("at most 8 open: each with all that belongs to it");
        String[] around = {"%x.#", "$x.#", "[x=#]1", "[x=1]#", "(#)", "{#,1}", "{1,#}", "?(#,1,1)", "?(T,#,1)",
            "?(T,1,#)", "&#", "|#", "@#", "!#", "%x.1+#", "$x.T#", "[x=1]1<#", "(1+#)", "{1~#,1}", "{1,1#}", "?(1#,1,1)"};
        for (String e : around) {
            due("eight are open in " + e, stands(e.replace("#", "(((((((1)))))))")), true);
            keeps("type", e.replace("#", "((((((((1))))))))"), -1 - (e.indexOf('#') + 7));
            keeps("type", e.replace("#", "(((((((%x.1)))))))"), -1 - (e.indexOf('#') + 7));
        }
        sentence("at most 8 open: that have begun and not ended");
        String[] ended = {"(1)", "{1,1}", "?(T,1,1)", "&q", "|q", "@1", "!q", "(%x.1)", "($x.1)", "([x=1]1)", "&&&&&&&&q"};
        for (String e : ended) {
            due("eight behind " + e, stands(e + "((((((((1))))))))"), true);
            due("eight behind " + e, stands(e + "+((((((((1))))))))"), true);
            keeps("type", e + "+(((((((((1)))))))))", -1 - (e.length() + 9));
        }
        chains();
    }

    private static void chains() {
        sentence("at most 8 open: one in the other");
        String[] ones = {"%x.", "$x.", "[x=1]", "(", "{", "?(T,1,", "&", "|", "@", "!", "{1,", "?(", "?(T,", "[x="};
        String[] ends = {"", "", "", ")", ",1}", ")", "", "", "", "", "}", ",1,1)", ",1)", "]1"};
        for (int i = 0; i < ones.length; i++) {
            due("eight " + ones[i], stands(many(ones[i], 8) + "1" + many(ends[i], 8)), true);
            String nine = many(ones[i], 9) + "1" + many(ends[i], 9);
            keeps("type", nine.substring(0, Math.min(80, nine.length())), -1 - 8 * ones[i].length());
        }
        // ?( is one: the sign that can't stand is the first of it
        keeps("type", "((((((((?", -9);
        due("eight of many kinds", stands("%x.$y.[z=1]({|@!1,1})"), true);
        keeps("type", "%x.$y.[z=1](&{|@!1,1})", -17);
    }

    // ---- types that are found

    private static void values() {
        String[] are = {"%x.x+1", "a", "12", "T", "F", "{1,T}", "(1)", "((%x.x))", "{(1),{T,(a)}}", "({a,%x.1+1})"};
        String[] not = {"1+1", "1-1", "1<2", "1=1", "a1", "$x.1", "[x=1]2", "?(T,1,2)", "&{1,2}", "|{1,2}", "@1",
            "!@1", "@1~2", "{1,1+1}", "{@1,1}", "(@1)", "{{1,1},{1,a1}}", "$f.%x.x", "[f=1]%x.x"};
        sentence("A VALUE is a FUNCTION, a letter, a NUMBER, T, F, a PAIR of VALUES (in ( ) too)");
        given("a=%x.x");
        for (String e : are) {
            given("b=" + e);
            due(e + " is a VALUE", t.definition(1, 5), 1);
            t.undo();
        }
        for (String e : not) {
            given("b=" + e);
            due(e + " is a VALUE", t.definition(1, 5), 0);
            t.undo();
        }
    }

    private static void generalByModes() {
        for (int v = 0; v <= 7; v++) {
            sentence("if 2 (4) is in MODES, and it is a VALUE, or 1 is not in MODES; MODES " + v);
            t.modes(v);
            boolean lets = (v & 2) != 0;
            boolean comes = (v & 4) != 0;
            boolean any = (v & 1) == 0;
            due("a VALUE is let", reads(t, "type", "[i=%x.x]{i1,iT}"), lets ? 3 : -100);
            due("no VALUE is let", reads(t, "type", "[i=(%x.x)(%x.x)]{i1,iT}"), lets && any ? 3 : -100);
            due("a PAIR of VALUES is let", reads(t, "type", "[i={%x.x,1}]{(&i)1,(&i)T}"), lets ? 3 : -100);
            due("none such is let", reads(t, "type", "[i={%x.x,@1}]{(&i)1,(&i)T}"), lets && any ? 3 : -100);
            long first = comes ? 0 : 1000;
            defines("a=%x.x", 3, 102, first, first);
            long weak = comes ? 1000 : 1001;
            long second = comes && any ? 0 : weak;
            defines("b=(%x.x)(%x.x)", 3, 102, second, second);
        }
        sentence("nor one not GENERAL of a letter bound by [ around, nor WEAK");
        type("%x.[f=%y.x][g=f]{g1,g2}", 5, 102, 0, 103, 0, 0);
        type("[f=$x.x][g=%y.f]{g1+1,?(g1,1,2)}", -100, 22);
        type("[f=$x.x][g=%y.f]{g1+1,g1+2}", 3, 103, 100, 100);
        given("a=@(%x.x)");
        type("[g=%y.!a]{g(1)T,g(1)1}", -100, 16);
        type("[g=%y.!a]{g(1)1,g(1)2}", 3, 103, 100, 100);
        sentence("each VARIABLE that is not in the TYPE of a letter bound around: not of one that was, in another text");
        for (int k = 1; k <= 5; k++) {
            type("[x=(%p.p)(%q.q)]x", 3, 102, 0, 0);
            int nodes = reads(t, "type", many("%y.", k) + "[z=%w.w]{z1,zT}");
            due("each y is a VARIABLE, a FUN is ahead of it", nodes, 2 * k + 3);
        }
        sentence("(that of a HOLE, too)");
        tells("hole", "[g=%y._]{g1+1,gT+1}", 1, 0, 100);
        tells("hole", "[g=%y._]{g1+1,?(gT,1,2)}", -100, 14);
    }

    private static void manyNodes() {
        sentence("a part whose TYPE has more than 24 NODES: FAULT -104; the PLACE: of that part");
        String[] may = {"@{x,x}", "{x,@x}", "%y.{x," + TEN + "}", "$f.@{x,x}", "[y=@{x,x}]y", "[y=@{x,x}]1", "(@{x,x})",
            "?(T,@{x,$z.z},@{$z.z,x})", "(%z.@{z,z})x", "@@{x,$z.z}~@{$z.z,x}", "[f=$z.z][u=fx" + TEN + "+1]f",
            "?(T,1,&{1,@{x,@1}})"};
        int[] nodes = {24, 24, 24, 24, 24, 1, 24, 24, 24, 24, 24, 1};
        for (int i = 0; i < may.length; i++) {
            answers("type", LET + may[i], nodes[i]);
        }
        String[] not = {"@@{x,x}", "{@x,@x}", "{x,@@x}", "%y.{x,x}", "$f.@@{x,x}", "[y=@@{x,x}]y", "(@@{x,x})",
            "?(T,@@{x,$z.z},@@{$z.z,x})", "(%z.@@{z,z})x", "((%z.@@{z,z}))x", "@@@{x,$z.z}~@@{$z.z,x}",
            "[f=$z.z][u=fxx+1]f", "!@@{x,x}", "1+(@@{x,x})", "{@@{x,x},q}"};
        int[] place = {0, 0, 0, 0, 3, 3, 1, 0, 1, 2, 0, 17, 1, 3, 1};
        for (int i = 0; i < not.length; i++) {
            type(LET + not[i], -104, 25 + place[i]);
        }
        tells("hole", LET + "[u=_xx+1]_", -104, 34);
        tells("parts", LET + "@@{x,x}", -104, 25);
        tells("comes", LET + "@@{x,x}", -104, 25);
        defines("a=" + LET + "@@{x,x}", -104, 27);
        answers("defines", "a=" + LET + "@{x,x}", 24);
        // what was found ahead of it
        type(LET + "{q,@@{x,x}}", -102, 26);
        keeps("blames", LET + "@{x,x}", -2);
        tells("blames", LET + "@@{x,x}", 2, 28, 30);
        sentence("more than 24 NODES (as it is then): a WEAK one that became more");
        given("a=@@(%x.x)", "b=@(%x.x)");
        answers("type", "[u=(!b)" + ELEVEN + "]b", 24);
        type("[u=(!!a)" + ELEVEN + "]a", -104, 30);
        answers("type", "[u=(!!a)" + TEN + "]a", 23);
    }

    private static String eight(String what, String between) {
        return many(what + between, 7) + what;
    }

    private static void places() {
        sentence("the PLACE of a FAULT: the first sign of the part; of A B, A + B, A < B, A ~ B: of A; ( ) aside");
        String[] unlike = {"1T", "(1)T", "((1)T)", "((1))T", "(1T)", "{1,(2)T}", "(%x.x+T)", "(T)+1", "1+(T)", "(1)+T",
            "1+2+T", "(1+2)+T", "1+(2+T)", "T<1", "1<T", "(1)<(T)", "1+1<T", "1<2+T", "1=T", "1~2", "(1)~2", "@1~T",
            "1+T~2", "&1", "(&1)", "&(1)", "&(&1)", "|T", "!1", "@!1", "{1,!2}", "?(1,2,3)", "(?(1,2,3))",
            "?(T,1,F)", "1+?(T,1,F)", "?(T,?(1,2,3),4)", "[x=1T]2", "[x=1]xT", "[x=1](x)T", "(%x.x)1T", "%x.1T",
            "%x.(1)T", "$x.1T", "{1T,2}", "{1,2T}", "1(2T)", "1(T+2)", "&{1,2}3", "@1T", "?(T,1,2)3"};
        int[] place = {0, 1, 2, 2, 1, 4, 4, 1, 0, 1,
            0, 1, 3, 0, 0, 1, 0, 2, 0, 0, 1, 0,
            0, 0, 1, 0, 2, 0, 0, 1, 3, 0, 1,
            0, 2, 4, 3, 5, 6, 1, 3,
            4, 3, 1, 3, 2, 2, 0, 0, 0};
        due("as many", unlike.length, place.length);
        for (int i = 0; i < unlike.length; i++) {
            type(unlike[i], -100, place[i]);
        }
        given("h=%p.%q.%r.%s.%t.%u.%v.1");
        String[] far = {"{1,([x=1]x)T}", "{1,{1,2}T}", "{1,?(T,1,2)T}", "{1,(&{1,2})T}", "{1,(%x.x)1T}", "{1,($x.1)T}",
            "{1," + eight("1", "+") + "<T}", "{1," + eight("1", "-") + "~1}", "{1,h" + many("T", 7) + "+T}",
            "{1,h" + many("T", 7) + "<T}", "{1,@1~" + eight("1", "+") + "=T}"};
        int[] farAt = {4, 3, 3, 4, 4, 4, 3, 3, 3, 3, 6};
        due("as many", far.length, farAt.length);
        for (int i = 0; i < far.length; i++) {
            type(far[i], -100, farAt[i]);
        }
        String[] inside = {"$x.@x", "($x.@x)", "1+($x.{x,1})", "%x.xx", "(%x.(x)x)", "%x.x~x", "%x.?(T,x,@x)"};
        int[] insideAt = {0, 1, 3, 3, 5, 3, 3};
        for (int i = 0; i < inside.length; i++) {
            type(inside[i], -101, insideAt[i]);
        }
        String[] unknown = {"a", "(q)", "[x=q]1", "[x=x]1", "%x.y", "{1,q}", "1+q", "?(T,1,q)", "&q", "qq", "1(q)"};
        int[] unknownAt = {0, 1, 3, 3, 3, 3, 2, 6, 1, 0, 2};
        for (int i = 0; i < unknown.length; i++) {
            type(unknown[i], -102, unknownAt[i]);
        }
        sentence("the first FAULT ends it");
        type("T+q", -100, 0);
        type("?(1,q,2)", -100, 0);
        type("?(T,q,1T)", -102, 4);
        type("?(T,1T,q)", -100, 4);
        type("T<q", -100, 0);
        type("1~q", -102, 2);
        type("1q", -102, 1);
        type("{1T,q}", -100, 1);
        type("{q,1T}", -102, 1);
        type("[x=1T]q", -100, 3);
        type("$x.{x,q}", -102, 6);
        type("&q", -102, 1);
        sentence("TO MAKE ONE: their first parts, then their second ones");
        type("%x.?(T,{x,1},{@x,T})", -101, 3);
        type("%x.?(T,{1,x},{T,@x})", -100, 3);
        type("%x.?(T,{x,1},{x,2})", 5, 102, 0, 103, 0, 100);
    }

    // ---- what an expression comes to

    private static void steps() {
        String down = "($f.%x.?(x<1,0,f(x-1)))";
        sentence("the STEP behind the hundredth ends it: -200");
        given("a=1");
        comes(down + "49", 0, 99, 0, 0);
        // the hundredth and the one behind it: a letter of a DEFINITION
        comes(down + "49+a", 0, 100, 0, 1);
        keeps("comes", down + "49+a+a", -200);
        // an A B
        comes("a+" + down + "49", 0, 100, 0, 1);
        keeps("comes", "a+a+" + down + "49", -200);
        comes("($f.%x.?(x<1,(%y.y)0,f(x-1)))49", 0, 100, 0, 0);
        keeps("comes", "($f.%x.?(x<1,(%y.y)((%y.y)0),f(x-1)))49", -200);
        // a letter of ITSELF that is not put to anything
        comes("($f.%x.?(x<1,[g=f]0,f(x-1)))49", 0, 100, 0, 0);
        keeps("comes", "a+($f.%x.?(x<1,[g=f]0,f(x-1)))49", -200);
        // other letters are none
        comes("[y=2]a+($f.%x.?(x<1,y+y+y+x,f(x-1)))49", 0, 100, 0, 7);
        sentence("more than 100 STEPS or wrong, whichever comes first");
        t.modes(6);
        given("a=1");
        String cast = "[c=@(%x.x)][d=c~(%x.x+1)]";
        keeps("comes", cast + "[u=" + down + "49](!c)T", -201);
        keeps("comes", cast + "[u=a+" + down + "49](!c)T", -200);
        comes(cast + "[u=" + down + "49](!c)1", 0, 100, 0, 2);
    }

    private static void ints() {
        sentence("sums as ints");
        String two30 = "[d=%x.x+x+x+x+x+x+x+x][t=%x.d(d(d(d(dx))))][y=t(t1)]";
        comes(two30 + "y", 0, 12, 0, 1 << 30);
        comes(two30 + "{y+y,y+y-1}", 3, 12, 3, 0, Integer.MIN_VALUE, 0, Integer.MAX_VALUE);
        comes(two30 + "{y+y<y,y+y=0-y-y}", 3, 12, 3, 1, 1, 1, 1);
        comes(two30 + "y+y+y+y", 0, 12, 0, 0);
        given("a=%x.x+1", "b=%x.x-1", "c=%x.0-x", "d=%x.x+x", "e=%x.?(x<x+1,1,0)", "f=%x.?(x-1<x,1,0)");
        int[] with = {Integer.MAX_VALUE, Integer.MIN_VALUE, Integer.MIN_VALUE, Integer.MIN_VALUE, Integer.MAX_VALUE,
            Integer.MIN_VALUE};
        int[] comes = {Integer.MIN_VALUE, Integer.MAX_VALUE, Integer.MIN_VALUE, 0, 0, 0};
        for (int x = 0; x < with.length; x++) {
            due("gives", t.gives(x, with[x]), 0);
            row(comes[x], 2);
        }
        due("gives", t.gives(4, Integer.MAX_VALUE - 1), 0);
        row(1, 2);
        due("gives", t.gives(5, Integer.MIN_VALUE + 1), 0);
        row(1, 2);
    }

    private static void goesWrong() {
        String[] kinds = {"7", "T", "(%z.z)", "{1,1}", "@1"};
        String[] wants = {"x+1", "1+x", "x-1", "1-x", "x<1", "1<x", "x=1", "1=x", "x+x", "?(x,1,2)", "x1", "&x", "|x",
            "!x", "x~1"};
        int[] kind = {0, 0, 0, 0, 0, 0, 0, 0, 0, 1, 2, 3, 3, 4, 4};
        for (int i = 0; i < wants.length; i++) {
            sentence("where it GOES WRONG: " + wants[i]);
            t.modes(6);
            for (int k = 0; k < kinds.length; k++) {
                String e = cast(wants[i]) + kinds[k];
                if (k == kind[i]) {
                    due(e + " comes to something", reads(t, "comes", e) >= 0, true);
                } else {
                    keeps("comes", e, -201);
                }
            }
        }
        sentence("it GOES WRONG when both have come, when that has come");
        t.modes(6);
        String[] late = {"x+($z.z)", "($z.z)+x", "x-($z.z)", "x<($z.z)", "x=($z.z)", "x($z.z)", "x~($z.z)", "x~1+($z.z)",
            "{$z.z,x+1}", "&($z.z)", "!($z.z)", "?($z.z,x+1,1)"};
        for (String e : late) {
            keeps("comes", cast(e) + "T", -200);
        }
        String[] soon = {"x+1+($z.z)", "x1($z.z)", "x+1<($z.z)", "{x+1,$z.z}", "&x+($z.z)", "?(x+1<1,$z.z,$z.z)",
            "[y=!x]$z.z", "(x~1)+($z.z)"};
        for (String e : soon) {
            keeps("comes", cast(e) + "T", -201);
        }
        keeps("comes", cast("?(x,$z.z,$z.z)") + "1", -201);
        // one of the others alone
        comes(cast("?(x,1,$z.z)") + "T", 0, 1, 0, 1);
        comes(cast("?(x,$z.z,2)") + "F", 0, 1, 0, 2);
    }

    /** What is put to this one may be of any TYPE without 1 in MODES. */
    private static String cast(String e) {
        return "[c=@(%x.$y.y)][d=c~(%x." + e + ")](!c)";
    }

    private static void cells() {
        sentence("all from the left; the CELL holds what B came to: that");
        comes("[c=@1]{{!c,c~2},{!c,c~3}}", 3, 0, 3, 3, 0, 1, 0, 2, 3, 0, 2, 0, 3);
        comes("[c=@1]!c+(c~5)+!c", 0, 0, 0, 11);
        comes("[c=@1]{c,c~5}", 3, 0, 3, 4, 0, 5, 0, 5);
        comes("[c=@1]c~!c+1", 0, 0, 0, 2);
        sentence("its letter standing for what the first came to, in the second alone");
        comes("[x=1]{{[x=2]x,x},[x=x+2]x}", 3, 0, 3, 3, 0, 2, 0, 1, 0, 3);
        comes("[x=1](%y.[x=2]x+y)x", 0, 1, 0, 3);
        comes("[x=1]((%x.x)2)+x", 0, 1, 0, 3);
        comes("[x=1]($x.2)+x", 0, 0, 0, 3);
        sentence("& the first of a PAIR, | the second");
        comes("&{1,T}", 0, 0, 0, 1);
        comes("|{1,T}", 1, 0, 1, 1);
        comes("&{{2,3},{T,F}}", 3, 0, 3, 0, 2, 0, 3);
        comes("|{{2,3},{T,F}}", 3, 0, 3, 1, 1, 1, 0);
        comes("{|&{{2,3},4},!&{@5,6}}", 3, 0, 3, 0, 3, 0, 5);
        sentence("a DEFINITION as its EXPRESSION, which is done each time anew, where it is told");
        given("a=@1", "b=%x.!a+x", "c=2");
        comes("{a~5,!a}", 3, 2, 3, 0, 5, 0, 1);
        comes("[a=@9]b1", 0, 3, 0, 2);
        comes("%x.c", 2, 0, 2);
        comes("{c,{c,c}}", 3, 3, 3, 0, 2, 3, 0, 2, 0, 2);
        sentence("ITSELF: its letter standing for all of it, done anew each time that it is asked for");
        comes("[c=@0]$f.?((c~!c+1)<3,f,!c)", 0, 2, 0, 3);
        comes("$f.[c=@0]?((c~!c+1)<1,f,!c)", 0, 0, 0, 1);
        comes("$x.7", 0, 0, 0, 7);
        comes("[x=3][f=%y.x+y][x=100]f1", 0, 1, 0, 4);
        comes("$x.[x=4]x", 0, 0, 0, 4);
        sentence("ITSELF: done anew with what letters stand for around it, not around its letter");
        comes("[c=@0](%y.$x.?((c~!c+1)<3,(%y.x)9,y))5", 0, 5, 0, 5);
        comes("[c=@0]$x.?((c~!c+1)<3,[c=@50]x,!c)", 0, 2, 0, 3);
        comes("[y=5][c=@0]($f.%x.?((c~!c+1)<3,[y=7]f(x+y),x+y))1", 0, 5, 0, 20);
    }

    private static void sets() {
        sentence("Sets (of DEFINITIONS: a is 1, b is 2, c is 4, ..) are bits");
        for (int x = 9; x >= 0; x--) {
            given((char) ('a' + x) + "=" + x);
            due("count(0)", t.count(0), 1024 - (1 << x));
        }
        due("fits", t.fits(), 1023);
        tells("hole", "_+1", 1, 1023, 100);
        due("all are known", reads(t, "defines", "j=1"), -103);
        keeps("defines", "k=1", -1);
    }

    private static void questions() {
        sentence("Questions change nothing (what VARIABLES became by them is forgotten)");
        given("a=@(%x.x)", "b=%x.x+1");
        answers("type", "(!a)1", 1);
        answers("hole", "(!a)_+1", 1);
        answers("parts", "(!a)T", 4);
        answers("comes", "(!a)1", 0);
        answers("blames", "{(!a)1,(!a)T}", 4);
        t.one(0, 0);
        t.applies(1, 0);
        t.ways(0, 1);
        t.law(3);
        due("WEAK ones", t.count(3), 1);
        t.scheme(0);
        row(104, 102, 1000, 1000);
        type("(!a)T", 1, 101);
        type("(!a)1", 1, 100);
    }

    public static void main(String[] args) {
        rowsOfTypes();
        signsOfAText();
        signsThatCantStand();
        terms();
        factors();
        digits();
        open();
        values();
        generalByModes();
        manyNodes();
        places();
        steps();
        ints();
        goesWrong();
        cells();
        sets();
        questions();
        ends("edges");
    }
}
