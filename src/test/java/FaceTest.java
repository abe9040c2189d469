import java.lang.reflect.Constructor;
import java.lang.reflect.Field;
import java.lang.reflect.Method;
import java.lang.reflect.Modifier;
import java.util.Arrays;
import java.util.List;
import java.util.TreeSet;

/** The public face is the document's and no more, and no call makes objects. */
public final class FaceTest {
    private static final List<String> FACE = List.of(
            "int sign(int)", "boolean end(int)", "int defines()", "int modes(int)", "int undo()",
            "int definition(int,int)", "int scheme(int)", "int type()", "int blames()", "int hole()", "int parts()",
            "int general(int,int)", "int one(int,int)", "int applies(int,int)", "int behind(int,int)",
            "int flips(int)", "int ways(int,int)", "int sorts()", "int largest()", "int comes()",
            "int gives(int,int)", "int finds(int,int)", "int heard(int,int)", "int forget()", "int fits()",
            "int asks()", "int law(int)", "int count(int)", "long row(int)");

    private static int wrong;

    private static void due(String what, Object got, Object want) {
        if (!got.equals(want)) {
            wrong++;
            System.out.println(what + " is " + got + ", due is " + want);
        }
    }

    private static String told(Method m) {
        StringBuilder b = new StringBuilder(m.getReturnType() + " " + m.getName() + "(");
        Class<?>[] of = m.getParameterTypes();
        for (int i = 0; i < of.length; i++) {
            b.append(i > 0 ? "," : "").append(of[i]);
        }
        return b.append(")").toString();
    }

    private static void members() {
        TreeSet<String> names = new TreeSet<>();
        TreeSet<String> open = new TreeSet<>();
        for (Method m : TypeLevels.class.getDeclaredMethods()) {
            if (!Modifier.isPrivate(m.getModifiers()) && !m.isSynthetic()) {
                open.add(told(m));
                names.add(m.getName());
            }
        }
        due("the methods", open, new TreeSet<>(FACE));
        for (Field f : TypeLevels.class.getDeclaredFields()) {
            if (!Modifier.isPrivate(f.getModifiers())) {
                due("the field", f.getName(), "NONE");
            }
        }
        Constructor<?>[] made = TypeLevels.class.getDeclaredConstructors();
        due("constructors", made.length, 1);
        due("its parameters", made[0].getParameterCount(), 0);
        due("final", Modifier.isFinal(TypeLevels.class.getModifiers()), true);
        privateNames(TypeLevels.class, names, true);
        for (Class<?> inside : TypeLevels.class.getDeclaredClasses()) {
            due(inside.getName() + " is static", Modifier.isStatic(inside.getModifiers()), true);
            due(inside.getName() + " is not public", Modifier.isPublic(inside.getModifiers()), false);
            privateNames(inside, names, false);
        }
    }

    private static void privateNames(Class<?> of, TreeSet<String> names, boolean privateAlone) {
        for (Method m : of.getDeclaredMethods()) {
            if (!m.isSynthetic() && (!privateAlone || Modifier.isPrivate(m.getModifiers()))) {
                due(of.getName() + "." + m.getName() + " bears a public name", names.contains(m.getName()), false);
            }
        }
    }

    private static void text(TypeLevels t, int[] signs) {
        for (int v : signs) {
            t.sign(v);
        }
        t.end(4 * signs.length);
    }

    /** Four signs a number; spaces can't stand, so texts have a length that four divides. */
    private static int[] packed(String text) {
        int[] signs = new int[text.length() / 4];
        for (int i = 0; i < 4 * signs.length; i++) {
            signs[i / 4] = signs[i / 4] << 8 | text.charAt(i);
        }
        return signs;
    }

    private static final int[][] TEXTS = {
        packed("a=%x.x+1"), packed("b=%xx.%y"), packed("b=@(%x.%y.x)"), packed("c=$f.%x.?(x<1,00,x+f(x-1))"),
        packed("(%x.xx)1"), packed("{_,{_,1}"), packed("[x=%y.y]{x1,xT}1"), packed("{c9,{a1,{a2,b}}}"),
    };

    private static void allCalls(TypeLevels t, int i) {
        text(t, TEXTS[i % TEXTS.length]);
        switch (i % 6) {
            case 0, 1 -> t.defines();
            case 2 -> t.type();
            case 3 -> t.comes();
            case 4 -> t.hole();
            default -> t.parts();
        }
        text(t, TEXTS[(i + 3) % TEXTS.length]);
        t.blames();
        int x = i % 3;
        int y = i / 3 % 3;
        t.general(x, y);
        t.one(x, y);
        t.applies(x, y);
        t.behind(x, y);
        t.flips(x);
        t.ways(x, y);
        t.sorts();
        t.largest();
        t.gives(x, i);
        t.finds(x, y);
        t.heard(i % 5, 1);
        t.fits();
        t.asks();
        t.law(i % 8);
        t.modes(i % 8);
        if (i % 7 == 0) {
            t.undo();
            t.forget();
        }
    }

    private static void room() {
        com.sun.management.ThreadMXBean bean =
                (com.sun.management.ThreadMXBean) java.lang.management.ManagementFactory.getThreadMXBean();
        long thread = Thread.currentThread().getId();
        TypeLevels warm = new TypeLevels();
        for (int i = 0; i < 400; i++) {
            allCalls(warm, i);
        }
        long before = bean.getThreadAllocatedBytes(thread);
        TypeLevels t = new TypeLevels();
        long made = bean.getThreadAllocatedBytes(thread) - before;
        before = bean.getThreadAllocatedBytes(thread);
        for (int i = 0; i < 400; i++) {
            allCalls(t, i);
        }
        long called = bean.getThreadAllocatedBytes(thread) - before;
        due("an object is small (" + made + " bytes)", made < 400000, true);
        due("calls make nothing (" + called + " bytes)", called < 4096, true);
    }

    /** Any arguments, any signs: nothing but what the document says is thrown. */
    private static void anything() {
        int[] odd = {0, 1, -1, 9, 10, 11, 24, 25, 100, Integer.MIN_VALUE, Integer.MAX_VALUE, 0x80808080};
        TypeLevels t = new TypeLevels();
        for (int a : odd) {
            for (int b : odd) {
                t.sign(a ^ b);
                t.end(b);
                Arrays.asList(t.modes(a), t.scheme(a), t.general(a, b), t.one(a, b), t.applies(a, b), t.behind(a, b));
                Arrays.asList(t.flips(a), t.ways(a, b), t.gives(a, b), t.finds(a, b), t.heard(a, b), t.law(a));
                Arrays.asList(t.count(a), t.type(), t.comes(), t.defines(), t.undo(), t.asks(), t.fits());
                thrown(t, a, b);
            }
        }
    }

    private static void thrown(TypeLevels t, int a, int b) {
        try {
            t.definition(a, b);
        } catch (java.util.NoSuchElementException e) {
            // as the document says
        }
        try {
            t.row(a);
        } catch (java.util.NoSuchElementException e) {
            // as the document says
        }
    }

    public static void main(String[] args) {
        members();
        room();
        anything();
        if (wrong > 0) {
            System.exit(1);
        }
        System.out.println("face: as due");
    }
}
