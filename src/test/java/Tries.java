import java.util.ArrayList;
import java.util.Arrays;
import java.util.List;
import java.util.NoSuchElementException;

/** What the tests by sentences share: an object, texts, what is due, and twins of which one alone gets a call. */
abstract class Tries {
    /** The answer of a call that throws NoSuchElementException. */
    static final long THROWS = Long.MIN_VALUE;

    static TypeLevels t;
    private static String sentence = "";
    private static int asked;
    private static int wrong;

    /** A call with its answer; acts whose answer does not matter answer anything. */
    interface Call {
        long on(TypeLevels of);
    }

    private interface Look {
        void at(TypeLevels of, List<Long> seen);
    }

    // ---- what is due

    /** A new object, for a sentence of the document. */
    static void sentence(String words) {
        sentence = words;
        t = new TypeLevels();
    }

    static void due(String what, long got, long want) {
        asked++;
        if (got != want) {
            wrong++;
            System.out.println(sentence + ": " + what + " answered " + told(got) + ", due is " + told(want));
        }
    }

    static void due(String what, boolean got, boolean want) {
        due(what, got ? 1 : 0, want ? 1 : 0);
    }

    private static String told(long answer) {
        return answer == THROWS ? "throws" : String.valueOf(answer);
    }

    static long[] rowOf(TypeLevels of) {
        long[] row = new long[of.count(7)];
        for (int i = 0; i < row.length; i++) {
            row[i] = of.row(i);
        }
        return row;
    }

    static void row(long... want) {
        same("the ROW", rowOf(t), want);
    }

    private static void same(String what, long[] got, long[] want) {
        asked++;
        if (!Arrays.equals(got, want)) {
            wrong++;
            System.out.println(sentence + ": " + what + " is " + Arrays.toString(got) + ", due is " + Arrays.toString(want));
        }
    }

    static long answer(TypeLevels of, Call call) {
        try {
            return call.on(of);
        } catch (NoSuchElementException e) {
            return THROWS;
        }
    }

    static void throwsNoSuch(String what, Call call) {
        due(what, answer(t, call), THROWS);
    }

    static void ends(String name) {
        System.out.println(name + ": " + asked + " asked, " + wrong + " wrong");
        if (wrong > 0) {
            System.exit(1);
        }
    }

    // ---- texts

    static String many(String what, int n) {
        return what.repeat(n);
    }

    /** THE TEXT is this, whatever it was. */
    static void write(TypeLevels of, String text) {
        of.end(0);
        int n = text.length();
        for (int i = 0; i < n; i += 4) {
            int v = 0;
            for (int k = 0; k < 4; k++) {
                v = v << 8 | (i + k < n ? text.charAt(i + k) : 0);
            }
            of.sign(v);
        }
        if (!of.end(n)) {
            throw new IllegalStateException("no room for " + text);
        }
    }

    static int reads(TypeLevels of, String call, String text) {
        write(of, text);
        return switch (call) {
            case "defines" -> of.defines();
            case "type" -> of.type();
            case "blames" -> of.blames();
            case "hole" -> of.hole();
            case "parts" -> of.parts();
            case "comes" -> of.comes();
            default -> throw new IllegalStateException(call);
        };
    }

    /** The answer alone, and that THE TEXT is empty then. */
    static void answers(String call, String text, int want) {
        due(call + " " + text, reads(t, call, text), want);
        due("signs behind " + call, t.count(8), 0);
    }

    /** The answer and the ROW that is told. */
    static void tells(String call, String text, int want, long... told) {
        answers(call, text, want);
        row(told);
    }

    /** The answer, and that the ROW is what it was. */
    static void keeps(String call, String text, int want) {
        long[] before = rowOf(t);
        answers(call, text, want);
        row(before);
    }

    static void type(String text, int want, long... told) {
        tells("type", text, want, told);
    }

    static void defines(String text, int want, long... told) {
        tells("defines", text, want, told);
    }

    static void comes(String text, int want, long... told) {
        tells("comes", text, want, told);
    }

    /** Definitions that must come. */
    static void given(String... texts) {
        for (String text : texts) {
            int answer = reads(t, "defines", text);
            due("defines " + text + " comes", answer > 0, true);
        }
    }

    // ---- twins

    private static final Look[] LOOKS = {
        Tries::counts, Tries::signs, Tries::measures, Tries::schemes, Tries::hearing, Tries::laws, Tries::values,
        Tries::past,
    };

    private static void tell(TypeLevels of, List<Long> seen) {
        for (long n : rowOf(of)) {
            seen.add(n);
        }
    }

    private static void counts(TypeLevels of, List<Long> seen) {
        for (int what = 0; what <= 8; what++) {
            if (what != 7) {
                seen.add((long) of.count(what));
            }
        }
    }

    // what THE TEXT is shows in what comes of it
    private static void signs(TypeLevels of, List<Long> seen) {
        seen.add((long) of.hole());
        tellAnswered(of, seen);
    }

    private static void tellAnswered(TypeLevels of, List<Long> seen) {
        if (seen.get(seen.size() - 1) >= 0) {
            tell(of, seen);
        }
    }

    private static void measures(TypeLevels of, List<Long> seen) {
        for (int x = 0; x <= 9; x++) {
            for (int what = 0; what <= 6; what++) {
                int y = x;
                int w = what;
                seen.add(answer(of, o -> o.definition(y, w)));
            }
        }
    }

    private static void schemes(TypeLevels of, List<Long> seen) {
        for (int x = 0; x <= 9; x++) {
            seen.add((long) of.scheme(x));
            tellAnswered(of, seen);
        }
    }

    private static void hearing(TypeLevels of, List<Long> seen) {
        seen.add((long) of.fits());
        tell(of, seen);
        seen.add((long) of.asks());
        tellAnswered(of, seen);
        seen.add((long) of.forget());
    }

    private static void laws(TypeLevels of, List<Long> seen) {
        for (int v = 0; v <= 7; v++) {
            seen.add((long) of.law(v));
            tell(of, seen);
        }
    }

    private static void values(TypeLevels of, List<Long> seen) {
        for (int x = 0; x <= 9; x++) {
            if ((of.count(0) >> x & 1) != 0) {
                seen.add((long) reads(of, "comes", String.valueOf((char) ('a' + x))));
                tellAnswered(of, seen);
            }
        }
    }

    private static void past(TypeLevels of, List<Long> seen) {
        long left = 0;
        while (left >= 0) {
            left = of.undo();
            seen.add(left);
            for (int what = 0; what <= 4; what++) {
                seen.add((long) of.count(what));
            }
        }
    }

    private static TypeLevels made(Call ahead) {
        TypeLevels made = new TypeLevels();
        ahead.on(made);
        return made;
    }

    private static void twins(String what, Call ahead, Call call, boolean empties, long[] told) {
        for (Look look : LOOKS) {
            TypeLevels plain = made(ahead);
            TypeLevels tried = made(ahead);
            long[] before = rowOf(plain);
            if (empties) {
                plain.end(0);
            }
            answer(tried, call);
            same("the ROW behind " + what, rowOf(tried), told == null ? before : told);
            List<Long> want = new ArrayList<>();
            List<Long> got = new ArrayList<>();
            look.at(plain, want);
            look.at(tried, got);
            same("what is seen behind " + what, numbers(got), numbers(want));
        }
    }

    private static long[] numbers(List<Long> of) {
        return of.stream().mapToLong(Long::longValue).toArray();
    }

    /** The call answers so, and then all is as if it had not been. */
    static void changesNothing(String what, Call ahead, Call call, long want) {
        due(what, answer(made(ahead), call), want);
        twins(what, ahead, call, false, null);
    }

    /** The call answers so, and then all is as if it had not been, but for the ROW. */
    static void tellsAlone(String what, Call ahead, Call call, long want, long... told) {
        due(what, answer(made(ahead), call), want);
        twins(what, ahead, call, false, told);
    }

    /** The text is read and answered so; but that it is read then, all is as if it had not been. */
    static void emptiesAlone(String call, String text, Call ahead, long want) {
        Call written = ahead(ahead, text);
        due(call + " " + text, answer(made(ahead), o -> reads(o, call, text)), want);
        twins(call + " " + text, written, o -> reads(o, call, text), true, null);
    }

    /** The text is read and answered so; but for that and the ROW, all is as if it had not been. */
    static void emptiesAndTells(String call, String text, Call ahead, long want, long... told) {
        Call written = ahead(ahead, text);
        due(call + " " + text, answer(made(ahead), o -> reads(o, call, text)), want);
        twins(call + " " + text, written, o -> reads(o, call, text), true, told);
    }

    private static Call ahead(Call ahead, String text) {
        return o -> {
            ahead.on(o);
            write(o, text);
            return 0;
        };
    }
}
