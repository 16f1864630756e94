import java.lang.reflect.Constructor;
import java.lang.reflect.Field;
import java.lang.reflect.Method;
import java.lang.reflect.Modifier;
import java.util.Set;
import java.util.TreeSet;

/** The public face, and promise 1: a new object. */
public final class FaceTest {
    private static final String[] FACE = {
        "int again(int,int)", "int at(int,int,int)", "int call(int,int,int,long,long)",
        "int caller()", "int copy(int,int,int)", "int deliver(int)", "int fall(int)",
        "int learn(int)", "int letter(int,int)", "int lose(int)", "int merge(int,int)",
        "int move(int,int)", "int order(int,int)", "int plan()", "int range(int,int)",
        "int rise(int)", "int split(int,int)", "int status(int)", "int step(int)",
        "int undo(int)", "int weight(int)", "long answer(int,int,int)", "long row(int,int,int)"};

    public static void main(String[] args) {
        face();
        newObject();
        twoObjects();
        Check.end("FaceTest");
    }

    private static void face() {
        Class<?> face = RangeHouse.class;
        Check.holds("public and final", Modifier.isPublic(face.getModifiers()) && Modifier.isFinal(face.getModifiers()));
        Set<String> due = new TreeSet<>(Set.of(FACE));
        Set<String> got = new TreeSet<>();
        for (Method m : face.getDeclaredMethods()) {
            if (!Modifier.isPrivate(m.getModifiers()) && !m.isSynthetic()) {
                got.add(signature(m));
                Check.holds("public " + m, Modifier.isPublic(m.getModifiers()) && !Modifier.isStatic(m.getModifiers()));
            }
        }
        Check.holds("the methods " + got, got.equals(due));
        for (Field f : face.getDeclaredFields()) {
            boolean none = f.getName().equals("NONE");
            Check.holds("the field " + f, none == Modifier.isPublic(f.getModifiers()) && none != Modifier.isPrivate(f.getModifiers()));
        }
        Constructor<?>[] makers = face.getDeclaredConstructors();
        Check.holds("one constructor", makers.length == 1 && makers[0].getParameterCount() == 0 && Modifier.isPublic(makers[0].getModifiers()));
        Check.due("NONE", RangeHouse.NONE, -9);
    }

    private static String signature(Method m) {
        StringBuilder text = new StringBuilder(m.getReturnType().getName()).append(' ').append(m.getName()).append('(');
        for (Class<?> p : m.getParameterTypes()) {
            text.append(text.charAt(text.length() - 1) == '(' ? "" : ",").append(p.getName());
        }
        return text.append(')').toString();
    }

    private static void newObject() {
        RangeHouse x = new RangeHouse();
        Check.rangeIs(x, 0, 0, 10000, 1, 0, Check.NONE, 0, 1);
        Check.atIs(x, 0, 0, 1, 1, 0, 0, 10000, Check.NONE, Check.NONE, Check.NONE, 0);
        for (int host = 1; host < 6; host++) {
            Check.atIsNothing(x, host, 0);
        }
        int[] status = {1, 1, 0, 0, 0, 6, 0, 0, Check.NONE, Check.NONE, Check.NONE, 0, 0, 0, 0, 0, 0, Check.NONE};
        for (int i = 0; i < status.length; i++) {
            Check.due("status(" + i + ")", x.status(i), status[i]);
        }
        Check.due("range(1, 0)", x.range(1, 0), Check.NONE);
        Check.due("at(0, 1, 0)", x.at(0, 1, 0), Check.NONE);
        Check.due("call(0, 0, 0, 0, 0)", x.call(0, 0, 0, 0, 0), -1);
    }

    private static void twoObjects() {
        RangeHouse x = new RangeHouse();
        RangeHouse y = new RangeHouse();
        x.caller();
        x.split(0, 5);
        x.fall(3);
        Check.due("another object's status(0)", y.status(0), 1);
        Check.due("another object's status(2)", y.status(2), 0);
        Check.due("another object's status(5)", y.status(5), 6);
    }
}
