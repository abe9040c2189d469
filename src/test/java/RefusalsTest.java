/**
 * What each answer changes: a call is made on one of two objects that came the same way, and then all that can be
 * seen of both must be the same, but for THE TEXT and the ROW where the document says so.
 */
public final class RefusalsTest extends Tries {
    private static final String EIGHT = "1+1+1+1+1+1+1+1";
    private static final String LONG = "(" + EIGHT + ")+(" + EIGHT + ")+(" + EIGHT + ")+(" + EIGHT + ")";
    private static final String TWELVE = "{{1,1},{{1,1},{1,@1}}}";
    private static final String ELEVEN = "{{1,1},{{1,1},{1,1}}}";
    private static final String LET = "[x=" + ELEVEN + "]";
    private static final String[] READING = {"type", "blames", "hole", "parts", "comes", "defines"};

    // ---- objects to begin with

    /** DEFINITIONS with GENERAL and WEAK VARIABLES, MODES that changed, something heard, a ROW, a text. */
    private static long rich(TypeLevels o) {
        reads(o, "defines", "c=%x.x");
        reads(o, "defines", "a=@(%x.x)");
        reads(o, "defines", "b=%x.%y.x");
        o.modes(6);
        reads(o, "defines", "d=@(%x.$y.y)");
        reads(o, "defines", "e=%n.[u=d~(%x.x+1)](!d)n+0");
        o.modes(7);
        reads(o, "defines", "f=%n.n+1");
        reads(o, "defines", "g=$f.%x.?(x=0,0,f(x-1))");
        reads(o, "defines", "h=T");
        reads(o, "defines", "i=@@(%x.1)");
        o.heard(1, 2);
        o.heard(3, 1);
        reads(o, "type", "{1,{T,@2}}");
        write(o, "{_,[x=1]");
        return 0;
    }

    /** Nothing but a ROW and a text. */
    private static long bare(TypeLevels o) {
        reads(o, "type", "{1,{T,@2}}");
        write(o, "{_,[x=1]");
        return 0;
    }

    /** 24 changes and more, 12 that were heard, 80 signs, all ten letters. */
    private static long full(TypeLevels o) {
        for (int x = 0; x <= 9; x++) {
            reads(o, "defines", (char) ('a' + x) + (x % 2 == 0 ? "=@(%x.x)" : "=%x.x"));
        }
        for (int i = 0; i < 20; i++) {
            o.modes(i % 2 == 0 ? 5 : 7);
        }
        for (int i = 0; i < 12; i++) {
            o.heard(1, i % 4);
        }
        reads(o, "type", "{1,{T,@2}}");
        write(o, "_+1+1+1+1+1+1+1" + "<(" + EIGHT + ")+(" + EIGHT + ")+(" + EIGHT + ")+1111111111");
        return 0;
    }

    // ---- texts, definitions

    private static void signs() {
        sentence("2: a refused sign() changes nothing");
        full(t);
        due("all signs", t.count(8), 80);
        for (int n = 77; n <= 80; n++) {
            int m = n;
            Call ahead = o -> {
                full(o);
                o.end(m);
                return 0;
            };
            changesNothing("sign behind " + n, ahead, o -> o.sign(0x31313131), -1);
        }
        sentence("3: a refused end() changes nothing");
        for (int n : new int[] {-1, 9, 80, 81, Integer.MIN_VALUE, Integer.MAX_VALUE}) {
            changesNothing("end(" + n + ")", RefusalsTest::rich, o -> o.end(n) ? 1 : 0, 0);
        }
        changesNothing("end(81)", RefusalsTest::full, o -> o.end(81) ? 1 : 0, 0);
        changesNothing("end of all signs", RefusalsTest::rich, o -> o.end(8) ? 1 : 0, 1);
    }

    private static void signsThatCantStand() {
        sentence("Terms 2: with -1 - p the ROW stays, and THE TEXT alone is emptied");
        for (String call : READING) {
            boolean defines = call.equals("defines");
            String ahead = defines ? "j=" : "";
            int more = ahead.length();
            emptiesAlone(call, "", RefusalsTest::rich, -1);
            emptiesAlone(call, ahead + "1+", RefusalsTest::rich, -3 - more);
            emptiesAlone(call, ahead + "(1T", RefusalsTest::rich, -4 - more);
            emptiesAlone(call, ahead + "1T)", RefusalsTest::rich, -3 - more);
            emptiesAlone(call, ahead + "1T)", RefusalsTest::bare, -3 - more);
            emptiesAlone(call, ahead + LONG + "+1-111", RefusalsTest::rich, -77);
            emptiesAlone(call, ahead + "(((((((((1)))))))))", RefusalsTest::rich, -9 - more);
        }
        emptiesAlone("defines", "j", RefusalsTest::rich, -2);
        emptiesAlone("defines", "j1", RefusalsTest::rich, -2);
        emptiesAlone("defines", "k=1", RefusalsTest::rich, -1);
        emptiesAlone("type", "_", RefusalsTest::rich, -1);
    }

    private static void faults() {
        sentence("Terms 2: with a FAULT the ROW is: its PLACE");
        String[] wrong = {"{1,2T}", "{1,($x.@x)}", "{1,q}", LET + "@@{x,x}"};
        int[] fault = {-100, -101, -102, -104};
        int[] place = {3, 4, 3, 25};
        for (String call : new String[] {"type", "hole", "parts", "comes"}) {
            for (int i = 0; i < wrong.length; i++) {
                emptiesAndTells(call, wrong[i], RefusalsTest::rich, fault[i], place[i]);
                emptiesAndTells(call, wrong[i], RefusalsTest::bare, fault[i], place[i]);
            }
        }
        for (int i = 0; i < wrong.length; i++) {
            emptiesAndTells("defines", "j=" + wrong[i], RefusalsTest::rich, fault[i], place[i] + 2);
            emptiesAndTells("defines", "j=" + wrong[i], RefusalsTest::bare, fault[i], place[i] + 2);
        }
        // what WEAK ones would have become is forgotten
        emptiesAndTells("defines", "j={(!a)1,(!a)T}", RefusalsTest::rich, -100, 10);
        emptiesAndTells("type", "{(!a)1,(!a)T}", RefusalsTest::rich, -100, 8);
        tellsAlone("applies", RefusalsTest::rich, o -> o.applies(7, 7), -100, 0);
        tellsAlone("behind", RefusalsTest::rich, o -> o.behind(2, 7), -100, 5);
        tellsAlone("flips", RefusalsTest::rich, o -> o.flips(5), -100, 6);
    }

    private static void defines() {
        sentence("4: -103 and -105: the ROW stays, nothing came");
        emptiesAlone("defines", "a=1", RefusalsTest::rich, -103);
        emptiesAlone("defines", "a=1T", RefusalsTest::rich, -103);
        emptiesAlone("defines", "b=(!a)1", RefusalsTest::rich, -103);
        emptiesAlone("defines", "j=1", RefusalsTest::full, -103);
        emptiesAlone("defines", "j=(!a)" + TWELVE, RefusalsTest::rich, -105);
        emptiesAlone("defines", "j=[u=(!a)" + TWELVE + "]1", RefusalsTest::rich, -105);
    }

    private static void modesAndUndo() {
        sentence("5: modes() that are so, or another v, change nothing");
        for (Call ahead : new Call[] {RefusalsTest::rich, RefusalsTest::bare, RefusalsTest::full}) {
            changesNothing("modes(7)", ahead, o -> o.modes(7), -2);
            changesNothing("modes(8)", ahead, o -> o.modes(8), -1);
            changesNothing("modes(-1)", ahead, o -> o.modes(-1), -1);
            changesNothing("modes(min)", ahead, o -> o.modes(Integer.MIN_VALUE), -1);
        }
        sentence("6: undo() of nothing changes nothing");
        changesNothing("undo", RefusalsTest::bare, TypeLevels::undo, -1);
        Call undone = o -> {
            full(o);
            while (o.undo() >= 0) {
                o.count(6);
            }
            return 0;
        };
        changesNothing("undo", undone, TypeLevels::undo, -1);
        sentence("6: what was done and undone leaves nothing but what it told");
        Call comes = o -> {
            reads(o, "defines", "j=(!a){1,1}");
            return o.undo();
        };
        Call emptied = o -> {
            rich(o);
            o.end(0);
            return 0;
        };
        tellsAlone("defines, undo", emptied, comes, 11, 103, 100, 100);
        changesNothing("modes, undo", RefusalsTest::rich, o -> 100 * o.modes(3) + o.undo(), 1711);
        changesNothing("modes, modes, undo, undo", RefusalsTest::rich,
                o -> o.modes(3) + o.modes(0) + o.undo() + o.undo(), 17 + 13 + 12 + 11);
    }

    private static void definitions() {
        sentence("7, 8: none such, another what: nothing changes");
        int[][] none = {{9, 0}, {10, 0}, {-1, 0}, {0, 7}, {0, -1}, {9, 9}};
        for (int[] n : none) {
            changesNothing("definition", RefusalsTest::rich, o -> o.definition(n[0], n[1]), THROWS);
        }
        changesNothing("definition", RefusalsTest::rich, o -> o.definition(0, 3), 1);
        for (int x : new int[] {9, 10, -1, Integer.MAX_VALUE}) {
            changesNothing("scheme(" + x + ")", RefusalsTest::rich, o -> o.scheme(x), -1);
            changesNothing("scheme(" + x + ")", RefusalsTest::bare, o -> o.scheme(x), -1);
        }
        tellsAlone("scheme", RefusalsTest::rich, o -> o.scheme(0), 4, 104, 102, 1000, 1000);
    }

    // ---- questions

    private static void questionsOfTexts() {
        sentence("9 .. 12, 21: questions change nothing but THE TEXT and the ROW");
        emptiesAndTells("type", "(!a)1", RefusalsTest::rich, 1, 100);
        emptiesAndTells("blames", "{(!a)1,(!a)T}", RefusalsTest::rich, 4, 3, 5, 9, 11);
        emptiesAndTells("blames", "T+T", RefusalsTest::rich, 0);
        emptiesAndTells("hole", "(!a)_+1", RefusalsTest::rich, 1, 0, 100);
        emptiesAndTells("hole", "(!a)1", RefusalsTest::rich, 0);
        emptiesAndTells("parts", "(!a)1", RefusalsTest::rich, 4, 4, 3, 1, 1);
        emptiesAndTells("comes", "(!a)1", RefusalsTest::rich, 0, 2, 0, 1);
        sentence("10: -2: the ROW stays");
        emptiesAlone("blames", "(!a)1", RefusalsTest::rich, -2);
        emptiesAlone("blames", "1", RefusalsTest::bare, -2);
        sentence("11, 12: -105: the ROW stays");
        emptiesAlone("hole", LET + "_xx+1", RefusalsTest::rich, -105);
        emptiesAlone("parts", LET + "[f=$z.z]fxx+1", RefusalsTest::rich, -105);
        sentence("21: -200, -201: the ROW stays");
        emptiesAlone("comes", "$x.x", RefusalsTest::rich, -200);
        emptiesAlone("comes", "(!d)1", RefusalsTest::rich, -200);
        emptiesAlone("comes", "g50", RefusalsTest::rich, -200);
        Call withoutOne = o -> {
            rich(o);
            o.modes(6);
            return 0;
        };
        emptiesAlone("comes", "[c=@(%x.x)][d=c~(%x.x+1)](!c)T", withoutOne, -201);
    }

    private static void questionsOfDefinitions() {
        sentence("13: 0, 1, NONE: it does not tell of the ROW");
        changesNothing("general", RefusalsTest::rich, o -> o.general(2, 5), 1);
        changesNothing("general", RefusalsTest::rich, o -> o.general(5, 2), 0);
        changesNothing("general", RefusalsTest::rich, o -> o.general(0, 9), -1);
        sentence("14: -100, -101 (no ROW); -105; NONE");
        changesNothing("one", RefusalsTest::rich, o -> o.one(0, 2), -100);
        changesNothing("one", RefusalsTest::rich, o -> o.one(1, 2), -101);
        changesNothing("one", RefusalsTest::rich, o -> o.one(9, 0), -1);
        tellsAlone("one", RefusalsTest::rich, o -> o.one(0, 0), 4, 104, 102, 1000, 1000);
        Call large = o -> {
            reads(o, "defines", "a=%x.@@x");
            reads(o, "defines", "b=%x.[z=?(T,x," + ELEVEN + ")]$y.y");
            return bare(o);
        };
        changesNothing("one", large, o -> o.one(0, 1), -105);
        sentence("15 .. 18: NONE; -2");
        changesNothing("applies", RefusalsTest::rich, o -> o.applies(0, 9), -1);
        changesNothing("behind", RefusalsTest::rich, o -> o.behind(9, 0), -1);
        changesNothing("flips", RefusalsTest::rich, o -> o.flips(9), -1);
        changesNothing("ways", RefusalsTest::rich, o -> o.ways(0, 9), -1);
        changesNothing("ways", large, o -> o.ways(0, 9), -1);
        Call apart = o -> {
            reads(o, "defines", "a=1");
            reads(o, "defines", "b=T");
            reads(o, "defines", "c=%x.x+1");
            return bare(o);
        };
        changesNothing("ways", apart, o -> o.ways(0, 1), -2);
        tellsAlone("ways", apart, o -> o.ways(0, 0), 0);
        tellsAlone("applies", RefusalsTest::rich, o -> o.applies(2, 0), 4, 104, 102, 1000, 1000);
        sentence("20: -2: there is none");
        changesNothing("largest", RefusalsTest::bare, TypeLevels::largest, -2);
        tellsAlone("sorts", RefusalsTest::bare, TypeLevels::sorts, 0);
        tellsAlone("largest", RefusalsTest::rich, TypeLevels::largest, 1, 5, 2);
    }

    private static void questionsOfValues() {
        sentence("22: -2, -200, -201, NONE: the ROW stays");
        changesNothing("gives", RefusalsTest::rich, o -> o.gives(9, 0), -1);
        changesNothing("gives", RefusalsTest::rich, o -> o.gives(7, 0), -2);
        changesNothing("gives", RefusalsTest::rich, o -> o.gives(1, 0), -2);
        changesNothing("gives", RefusalsTest::rich, o -> o.gives(6, 50), -200);
        changesNothing("gives", RefusalsTest::rich, o -> o.gives(4, 50), -200);
        tellsAlone("gives", RefusalsTest::rich, o -> o.gives(6, 49), 0, 0, 100);
        Call wrong = o -> {
            o.modes(6);
            reads(o, "defines", "a=%n.[c=@(%x.x)][d=c~(%x.T)](!c)n");
            return bare(o);
        };
        changesNothing("gives", wrong, o -> o.gives(0, 1), -201);
        sentence("23: -2, NONE: the ROW stays");
        changesNothing("finds", RefusalsTest::rich, o -> o.finds(9, 0), -1);
        changesNothing("finds", RefusalsTest::rich, o -> o.finds(7, 0), -2);
        changesNothing("finds", RefusalsTest::rich, o -> o.finds(5, 0), -2);
        tellsAlone("finds", RefusalsTest::rich, o -> o.finds(5, 1), 0, 1);
    }

    // ---- which definition it was, other modes

    private static void heard() {
        sentence("24: refused: others, 12");
        int[][] others = {{0, 6}, {0, -1}, {1, 25}, {1, -1}, {2, 10}, {2, -1}, {3, 2}, {3, -1}, {4, 10}, {4, -1},
            {5, 0}, {-1, 0}, {Integer.MAX_VALUE, 0}, {0, Integer.MIN_VALUE}};
        for (int[] n : others) {
            changesNothing("heard", RefusalsTest::rich, o -> o.heard(n[0], n[1]), -1);
        }
        changesNothing("heard", RefusalsTest::full, o -> o.heard(0, 0), -1);
        changesNothing("heard", RefusalsTest::full, o -> o.heard(1, 24), -1);
        sentence("25: forget() of nothing changes nothing; the ROW stays");
        changesNothing("forget", RefusalsTest::bare, TypeLevels::forget, 0);
        Call forgotten = o -> {
            full(o);
            return o.forget();
        };
        changesNothing("forget", forgotten, TypeLevels::forget, 0);
        changesNothing("heard, forget", forgotten, o -> o.heard(0, 0) + o.forget(), 2);
        sentence("26, 27: they change nothing but the ROW; -2: it stays");
        tellsAlone("fits", RefusalsTest::bare, TypeLevels::fits, 0, 0);
        tellsAlone("fits", RefusalsTest::rich, TypeLevels::fits, 2 + 4 + 16 + 32, 4);
        changesNothing("asks", RefusalsTest::bare, TypeLevels::asks, -2);
        Call noneFits = o -> {
            rich(o);
            return o.heard(1, 24);
        };
        changesNothing("asks", noneFits, TypeLevels::asks, -2);
        tellsAlone("fits", noneFits, TypeLevels::fits, 0, 0);
        tellsAlone("asks", RefusalsTest::rich, TypeLevels::asks, 201, 2);
    }

    private static void others() {
        sentence("28: NONE; else nothing but the ROW changes");
        changesNothing("law(8)", RefusalsTest::rich, o -> o.law(8), -1);
        changesNothing("law(-1)", RefusalsTest::rich, o -> o.law(-1), -1);
        changesNothing("law(min)", RefusalsTest::bare, o -> o.law(Integer.MIN_VALUE), -1);
        tellsAlone("law(7)", RefusalsTest::rich, o -> o.law(7), 0, 0, 2);
        tellsAlone("law(0)", RefusalsTest::bare, o -> o.law(0), 0, 0, 0);
        sentence("29, 30: they change nothing");
        changesNothing("count(9)", RefusalsTest::rich, o -> o.count(9), -1);
        changesNothing("count(-1)", RefusalsTest::rich, o -> o.count(-1), -1);
        changesNothing("count(3)", RefusalsTest::rich, o -> o.count(3), 2);
        changesNothing("row(6)", RefusalsTest::rich, o -> o.row(6), THROWS);
        changesNothing("row(-1)", RefusalsTest::rich, o -> o.row(-1), THROWS);
        changesNothing("row(5)", RefusalsTest::rich, o -> o.row(5), 100);
    }

    public static void main(String[] args) {
        signs();
        signsThatCantStand();
        faults();
        defines();
        modesAndUndo();
        definitions();
        questionsOfTexts();
        questionsOfDefinitions();
        questionsOfValues();
        heard();
        others();
        ends("refusals");
    }
}
