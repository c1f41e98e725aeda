import java.lang.reflect.Constructor;
import java.lang.reflect.Field;
import java.lang.reflect.Method;
import java.lang.reflect.Modifier;
import java.util.ArrayList;
import java.util.List;
import java.util.TreeSet;

/** The class has the document's face and no other member that can be seen from outside. */
public final class FaceTest {
    private static final String[] CALLS = {
        "int alp(int,int,int,int)", "int ofBell(int,int)", "int cheer(int,int)", "int recast(int,int)",
        "int go(int,int)", "int blow(int)", "int sound(int,int)", "int heard(int)", "int taken(int,int)",
        "int meant(int,int)", "int family(int)", "int goings(int,int,int,int,int)", "int post(int)",
        "int call(int,int)", "int cast(int)", "int choir(int)", "int reading(int,int,int)", "int back(int)",
        "int notes(int)", "int kinds(int)", "int winds()", "long odds(int,int,int)", "int sheet(int,int,int)",
        "int lose(int)", "int put(int,int,int)", "long cell(int,int,int)", "int copy(int,int,int,int,int)",
        "int tell(int)", "int echo(int)", "int as(int,int)", "int trace()", "int fault()", "int many(int)"};
    private static final String[] CONSTANTS = {
        "int UNKNOWN", "int OUTSIDE", "int STATE", "int FULL", "int NONE", "long LOST"};

    private static int wrong = 0;

    private static void same(String what, Object got, Object want) {
        if (!got.equals(want)) {
            wrong++;
            System.out.println(what + ": there is " + got + ", due is " + want);
        }
    }

    private static String told(Method m) {
        List<String> types = new ArrayList<>();
        for (Class<?> type : m.getParameterTypes()) types.add(type.getName());
        return m.getReturnType().getName() + " " + m.getName() + "(" + String.join(",", types) + ")";
    }

    public static void main(String[] args) {
        TreeSet<String> calls = new TreeSet<>();
        TreeSet<String> publicNames = new TreeSet<>();
        TreeSet<String> otherNames = new TreeSet<>();
        for (Method m : BellNames.class.getDeclaredMethods()) {
            if (Modifier.isPrivate(m.getModifiers())) {
                otherNames.add(m.getName());
            } else {
                calls.add(told(m));
                publicNames.add(m.getName());
                same(m.getName() + " is public", Modifier.isPublic(m.getModifiers()), true);
                same(m.getName() + " is static", Modifier.isStatic(m.getModifiers()), false);
            }
        }
        same("calls", calls, new TreeSet<>(List.of(CALLS)));
        for (Class<?> inside : BellNames.class.getDeclaredClasses()) {
            same(inside.getName() + " is static", Modifier.isStatic(inside.getModifiers()), true);
            for (Method m : inside.getDeclaredMethods()) otherNames.add(m.getName());
        }
        otherNames.retainAll(publicNames);
        same("names used twice", otherNames, new TreeSet<String>());
        TreeSet<String> constants = new TreeSet<>();
        for (Field f : BellNames.class.getDeclaredFields()) {
            if (!Modifier.isPrivate(f.getModifiers())) {
                constants.add(f.getType().getName() + " " + f.getName());
                same(f.getName(), f.getModifiers(), Modifier.PUBLIC | Modifier.STATIC | Modifier.FINAL);
            } else if (Modifier.isStatic(f.getModifiers())) {
                same(f.getName() + " is final", Modifier.isFinal(f.getModifiers()), true);
            }
        }
        same("constants", constants, new TreeSet<>(List.of(CONSTANTS)));
        Constructor<?>[] makers = BellNames.class.getDeclaredConstructors();
        same("constructors", makers.length, 1);
        same("parameters of the constructor", makers[0].getParameterCount(), 0);
        same("the class", BellNames.class.getModifiers(), Modifier.PUBLIC | Modifier.FINAL);
        System.out.println(wrong == 0 ? "the face is as told" : wrong + " members are not as told");
        if (wrong != 0) System.exit(1);
    }
}
