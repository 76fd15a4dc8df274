import java.lang.reflect.Constructor;
import java.lang.reflect.Field;
import java.lang.reflect.Method;
import java.lang.reflect.Modifier;
import java.util.TreeSet;

/** The public face is the document's and no more, and the arguments at their worst are answered all the same. */
public final class FaceTest {
    private static final String[] METHODS = {
        "int shore()", "int current(int,int)", "int soul(int,int,int)", "int caller(int)", "int type(int)",
        "int clear()", "int read()", "int tides(int)", "int walks(int)", "int calls(int)", "int returns(int)",
        "int undo()", "int of(int,int)", "int about(int,int)", "int feels(int,int)", "int where(int,int)",
        "int comes(int,int)", "int walk(int,int)", "int right()", "int order(int)", "int swaps()",
        "int seen(int,int)", "int which()", "int tell()", "int note(int,int,int,int)", "int mark(int,int,int)",
        "int forget(int)", "int is(int)", "int look(int)", "int kinds(int)", "int ask(int)",
        "int claim(int,int,int,int)", "int gulls(int)", "int years(int,int)", "long part(int)", "int image(int)",
        "int from(int)", "int status(int)", "int count(int)", "long digest()"};
    private static final int[] WORST = {
        Integer.MIN_VALUE, Integer.MIN_VALUE + 1, -65536, -11, -3, -2, -1, 0, 1, 5, 6, 9, 10, 11, 12, 20, 31, 60, 61, 63, 64,
        99, 100, 127, 128, 150, 999, 999999, 1000000, 65536, Integer.MAX_VALUE - 1, Integer.MAX_VALUE};

    public static void main(String[] args) throws Exception {
        face();
        for (int fill = 0; fill < 3; fill++) {
            for (Method m : SoulShore.class.getDeclaredMethods()) {
                if (Modifier.isPublic(m.getModifiers())) {
                    worst(m, fill);
                }
            }
        }
        Due.end();
    }

    private static void face() {
        Due.is("modifiers", SoulShore.class.getModifiers(), Modifier.PUBLIC | Modifier.FINAL);
        TreeSet<String> due = new TreeSet<>();
        for (String m : METHODS) {
            due.add(m);
        }
        TreeSet<String> names = new TreeSet<>();
        TreeSet<String> hidden = new TreeSet<>();
        for (Method m : SoulShore.class.getDeclaredMethods()) {
            String told = m.toString();
            if (Modifier.isPublic(m.getModifiers())) {
                Due.is("in the document: " + told,
                    due.remove(told.replace("public ", "").replace("SoulShore.", "")) ? 1 : 0, 1);
                names.add(m.getName());
            } else {
                Due.is("private: " + told, Modifier.isPrivate(m.getModifiers()) ? 1 : 0, 1);
                hidden.add(m.getName());
            }
        }
        Due.is("missing: " + due, due.size(), 0);
        for (Class<?> inner : SoulShore.class.getDeclaredClasses()) {
            Due.is("static: " + inner, Modifier.isStatic(inner.getModifiers()) ? 1 : 0, 1);
            for (Method m : inner.getDeclaredMethods()) {
                hidden.add(m.getName());
            }
            Due.is("fields of " + inner, instanceFields(inner) <= 20 ? 1 : 0, 1);
        }
        hidden.retainAll(names);
        Due.is("hidden methods named as public ones: " + hidden, hidden.size(), 0);
        for (Constructor<?> c : SoulShore.class.getDeclaredConstructors()) {
            Due.is("constructor " + c, c.getParameterCount() == 0 && Modifier.isPublic(c.getModifiers()) ? 1 : 0, 1);
        }
        for (Field f : SoulShore.class.getDeclaredFields()) {
            boolean told = "NONE BAD NO FULL".contains(f.getName());
            Due.is("field " + f, Modifier.isPublic(f.getModifiers()) ? 1 : 0, told ? 1 : 0);
            Due.is("field " + f, Modifier.isPrivate(f.getModifiers()) ? 0 : 1, told ? 1 : 0);
            boolean isStatic = Modifier.isStatic(f.getModifiers());
            Due.is("final static " + f, isStatic && !Modifier.isFinal(f.getModifiers()) ? 1 : 0, 0);
        }
        Due.is("fields", instanceFields(SoulShore.class) <= 20 ? 1 : 0, 1);
    }

    private static int instanceFields(Class<?> c) {
        int n = 0;
        for (Field f : c.getDeclaredFields()) {
            n += Modifier.isStatic(f.getModifiers()) ? 0 : 1;
        }
        return n;
    }

    /** Nobody there, some there, all full. */
    private static SoulShore filled(int fill) {
        SoulShore x = new SoulShore();
        for (int n = 0; n < 3 * fill; n++) {
            x.current(n, n % 5 - 2);
            x.soul(n, 1 + n, 2 * n);
            x.caller(n);
        }
        for (int n = 0; n < 9 * fill; n++) {
            x.walks(1);
            x.calls(n % 6);
            x.seen(n, n);
            x.note(n % 6, 1, n, n);
            x.mark(n % 6, n, n);
        }
        for (int n = 0; n < 75 * fill; n++) {
            x.type(59 - n % 2);
        }
        return x;
    }

    private static void worst(Method m, int fill) throws Exception {
        int arity = m.getParameterCount();
        long combinations = 1;
        for (int n = 0; n < arity; n++) {
            combinations *= WORST.length;
        }
        // of all sets of four numbers some twenty thousand are enough
        long step = Math.max(1, combinations / 20000 | 1);
        SoulShore x = filled(fill);
        boolean ok = true;
        for (long at = 0, told = 0; at < combinations; at += step, told++) {
            if (told % 400 == 399) {
                x = filled(fill);
            }
            Object[] values = new Object[arity];
            long rest = at;
            for (int n = 0; n < arity; n++) {
                values[n] = WORST[(int) (rest % WORST.length)];
                rest /= WORST.length;
            }
            try {
                m.invoke(x, values);
            } catch (ReflectiveOperationException e) {
                System.out.println(m + " threw " + e.getCause() + " for " + java.util.Arrays.toString(values));
                ok = false;
            }
        }
        Due.is("never throws: " + m, ok ? 1 : 0, 1);
    }
}
