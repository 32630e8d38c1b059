import java.lang.reflect.Constructor;
import java.lang.reflect.Field;
import java.lang.reflect.InvocationTargetException;
import java.lang.reflect.Member;
import java.lang.reflect.Method;
import java.lang.reflect.Modifier;
import java.util.ArrayList;
import java.util.Arrays;
import java.util.Collections;
import java.util.List;
import java.util.NoSuchElementException;

/** The public face, and that no call throws what it may not, whatever it is asked in whatever state. */
public final class FaceTest {
    private static final String[] FACE = {
        "int table int int", "int saying int int int int", "int part int int", "int turn int int",
        "int sheet int int int int", "int sign int", "boolean end int", "int pay int", "int gets int int int",
        "int ends int", "int mean int int int", "int best int int", "int loses int int int", "int truly int",
        "int bends int", "int could int int", "int same int int", "int alike int int", "int make int", "int back int",
        "boolean take int", "boolean mix int int int int int", "int lift int int", "int rank int int int",
        "int look int int int int", "int purse int int int", "int minds int int int", "int lot int int int",
        "int bribe int int int int int", "int safe int", "int person int", "int go", "int prize int int int",
        "int boast int int", "int rest int", "int agree int int int", "int gain int", "int peers int int int",
        "int decide int int int int", "int coin int int int int", "int says int int", "int middle int int int",
        "boolean word int int int", "int words int", "int evening int int int", "int forget", "int paid int int",
        "int first int", "int right int int int", "int meant int", "int thinks int int", "boolean keep int",
        "boolean again int", "int count int", "long row int",
    };
    private static final List<String> THROWING = Arrays.asList("part", "gets", "row");
    private static final int[] ODD = {0, 1, 2, 3, 4, 5, 12, 13, -1, -2, 9999, 10000, Integer.MIN_VALUE,
        Integer.MAX_VALUE, 0x71717171, 454, 455};

    private static long seed = 4711;

    private FaceTest() {
    }

    private static int next(int bound) {
        seed = seed * 6364136223846793005L + 1442695040888963407L;
        return (int) ((seed >>> 33) % bound);
    }

    private static String told(Method m) {
        StringBuilder b = new StringBuilder(m.getReturnType().getName()).append(' ').append(m.getName());
        for (Class<?> type : m.getParameterTypes()) {
            b.append(' ').append(type.getName());
        }
        return b.toString();
    }

    private static void theFace() {
        Class<?> c = PaidForThinking.class;
        Due.is("the class is public and final", c.getModifiers(), Modifier.PUBLIC | Modifier.FINAL);
        Due.is("NONE", PaidForThinking.NONE, -1);
        List<String> methods = new ArrayList<>();
        for (Method m : c.getDeclaredMethods()) {
            if (Modifier.isPublic(m.getModifiers())) {
                methods.add(told(m));
                boolean none = Arrays.equals(m.getExceptionTypes(), new Class<?>[] {NoSuchElementException.class});
                Due.is(m.getName() + " says what it throws", none, THROWING.contains(m.getName()));
            } else {
                Due.is(m.getName() + " is private", Modifier.isPrivate(m.getModifiers()), true);
            }
        }
        List<String> due = new ArrayList<>(Arrays.asList(FACE));
        Collections.sort(methods);
        Collections.sort(due);
        Due.is("the methods of the face: " + methods, methods.equals(due), true);
        theRest(c);
    }

    private static void theRest(Class<?> c) {
        Constructor<?>[] constructors = c.getDeclaredConstructors();
        Due.is("one constructor", constructors.length, 1);
        Due.is("it is public", constructors[0].getModifiers(), Modifier.PUBLIC);
        Due.is("it asks nothing", constructors[0].getParameterCount(), 0);
        for (Field f : c.getDeclaredFields()) {
            boolean face = f.getName().equals("NONE");
            Due.is(f.getName() + " is private", Modifier.isPrivate(f.getModifiers()), !face);
            Due.is(f.getName() + " is final", Modifier.isFinal(f.getModifiers()), true);
        }
        for (Class<?> inner : c.getDeclaredClasses()) {
            Due.is(inner.getName() + " is static", Modifier.isStatic(inner.getModifiers()), true);
            Due.is(inner.getName() + " is not public", Modifier.isPublic(inner.getModifiers()), false);
            List<Member> members = new ArrayList<>(Arrays.asList(inner.getDeclaredFields()));
            for (Member m : members) {
                boolean kept = !Modifier.isStatic(m.getModifiers()) || Modifier.isFinal(m.getModifiers());
                Due.is(inner.getName() + "." + m.getName() + " is no state of all", kept, true);
            }
        }
    }

    private static int odd(PaidForThinking x) {
        int how = next(4);
        if (how == 0) {
            return ODD[next(ODD.length)];
        }
        if (how == 1) {
            return next(Math.max(1, x.count(2)));
        }
        return next(how == 2 ? 4 : 14);
    }

    private static void call(PaidForThinking x, Method m) throws IllegalAccessException {
        Object[] args = new Object[m.getParameterCount()];
        for (int i = 0; i < args.length; i++) {
            args[i] = odd(x);
        }
        Throwable thrown = null;
        try {
            m.invoke(x, args);
        } catch (InvocationTargetException e) {
            thrown = e.getCause();
        }
        boolean may = thrown == null
            || THROWING.contains(m.getName()) && thrown.getClass() == NoSuchElementException.class;
        Due.is(m.getName() + Arrays.toString(args) + " throws " + thrown, may, true);
    }

    private static void noCallThrows() throws IllegalAccessException {
        List<Method> face = new ArrayList<>();
        for (Method m : PaidForThinking.class.getDeclaredMethods()) {
            if (Modifier.isPublic(m.getModifiers())) {
                face.add(m);
            }
        }
        face.sort((a, b) -> a.getName().compareTo(b.getName()));
        String[] pays = {"2*d*q-s", "t*e-u/(m-q)", "8192*8192*32/(q-2)*(n<d)", "-(x=1)*q*9999*9999"};
        // with what odd() asks they are less than 512 calls of each object
        for (int run = 0; run < 120; run++) {
            PaidForThinking x = run % 4 == 0 ? new PaidForThinking() : Due.with(pays);
            for (int i = 0; i < 270; i++) {
                Method m = face.get(next(face.size()));
                if (!m.getName().equals("pay") || next(4) == 0) {
                    call(x, m);
                }
            }
        }
    }

    public static void main(String[] args) throws IllegalAccessException {
        theFace();
        noCallThrows();
        Due.end("FaceTest");
    }
}
