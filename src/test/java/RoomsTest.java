/** Texts, types and values as large as may be, or nearly, and an object's whole life of 512 calls. */
public final class RoomsTest extends Tries {
    private static final String CHAIN = "%p.%q.%r.%s.%t.%u.%v.b";
    private static final int LIFE = 512;

    private RoomsTest() {
    }

    private static String eight(String term) {
        return String.join("+", term, term, term, term, term, term, term, term);
    }

    /** DEFINITIONS whose TYPES are as large as may be, each VARIABLE standing once, 84 of them WEAK. */
    private static void largeOnes() {
        t.modes(6);
        defines("b=%p.%q.%r.%s.$x.x", 9, 102, 0, 102, 1, 102, 2, 102, 3, 4);
        answers("defines", "a=" + CHAIN, 23);
        answers("defines", "h=%p.%q.%r.%s.%t.%u.%v.1", 15);
        t.modes(2);
        for (char letter : "cdefgij".toCharArray()) {
            answers("defines", letter + "=" + CHAIN, 23);
        }
        due("WEAK ones", t.count(3), 84);
        due("DEFINITIONS", t.count(0), 1023);
        due("NODES", t.count(4), 9 + 23 + 15 + 7 * 23);
    }

    private static void largeTexts() {
        sentence("1: at most 76 signs, most of them letters of a TYPE of 23 NODES");
        largeOnes();
        String large = eight("haaaaaaa");
        type(large, 1, 100);
        type(large + "<1+12", 1, 101);
        keeps("parts", large, -105);
        // eight terms of 15 parts each, and seven sums of them
        tells("parts", eight("hTTTTTTT"), 127, 15, 1, 13, 1, 11, 1, 9, 1, 7, 1, 5, 1, 3, 1);
        tells("blames", "1" + large.substring(1), 1, 0);
        tells("blames", large + "<T", 1, 72);
        tells("hole", large.replace("ha", "_a"), -104, 9);
        tells("hole", eight("hTTTTTT_"), 1, 1023, 0);
        // the seven are made one, so that of 84 WEAK ones 12 are left; h alone does not fit, as it ends with INT
        tells("hole", "?(T,c,?(T,d,?(T,e,?(T,f,?(T,g,?(T,i,?(T,j,_)))))))", 23, 1023 - 128,
                102, 1000, 102, 1001, 102, 1002, 102, 1003, 102, 1004, 102, 1005, 102, 1006, 102, 1007,
                102, 1008, 102, 1009, 102, 1010, 1011);
    }

    private static void largeValues() {
        sentence("21: 100 STEPS, each with much left to do");
        given("d=$f.%n.?(n<1,0,@1~1+(@1~1+(@1~1+(@1~1+f(n-1)))))");
        tells("comes", "d49", 0, 100, 0, 196);
        keeps("comes", "d50", -200);
        given("e=$f.%n.?(n<1,0,!@!@1+!@!@1+!@!@1+!@!@1+!@!@1+!@!@1+!@!@1+f(n-1))");
        tells("comes", "e49", 0, 100, 0, 343);
        // four ITSELFS begin in each STEP, and none of them ends ahead of the last
        tells("comes", "[c=@0]$x.$y.$z.$u.?((c~!c+1)<101,1+x,0)", 0, 100, 0, 100);
        keeps("comes", "[c=@0]$x.$y.$z.$u.?((c~!c+1)<102,1+x,0)", -200);
    }

    private static void farthestWay() {
        sentence("18: of ten DEFINITIONS the last way that is tried");
        given("a={1,{1,{1,T}}}", "b=T", "c=%p.{&p,|p}", "d=c", "e=c", "f=c", "g=c", "h=c", "i=c", "j=%p.|p");
        for (int i = 0; i < 8; i++) {
            due("ways", t.ways(0, 1), 3);
            row(9, 9, 9);
            due("ways by none", t.ways(1, 0), -2);
        }
    }

    private static void wholeLife() {
        sentence("an object is used for at most 512 calls");
        given("a=%x.x", "b=%x.%y.x", "c=%f.%g.%x.fx(gx)", "d=@a", "e={a,{b,c}}");
        // given() made fewer than 40 calls, each turn makes 5
        for (int calls = 40; calls + 5 <= LIFE; calls += 5) {
            due("ways", t.ways(4, 3), -2);
            due("applies", t.applies(2, 1), 7);
            due("behind", t.behind(2, 1), 11);
            due("one", t.one(1, 1), 5);
            due("law", t.law(6), 0);
        }
        sentence("512 calls, half of them with more than 100 STEPS");
        given("d=$f.%n.?(n<1,0,@1~1+(@1~1+(@1~1+(@1~1+f(n-1)))))");
        for (int calls = 40; calls + 2 <= LIFE; calls += 2) {
            due("gives", t.gives(3, 50), -200);
            due("gives", t.gives(3, 49), 0);
        }
        row(196, 100);
    }

    public static void main(String[] args) {
        largeTexts();
        largeValues();
        farthestWay();
        wholeLife();
        ends("rooms");
    }
}
