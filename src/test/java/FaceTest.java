import java.lang.reflect.Constructor;
import java.lang.reflect.Field;
import java.lang.reflect.Method;
import java.lang.reflect.Modifier;
import java.util.Arrays;
import java.util.TreeSet;

/** The public face: just the document's constants, constructor and methods, and nothing more. */
public final class FaceTest {
    private static final String[] METHODS = {
        "double setSource(double,double) IllegalArgumentException",
        "int addLine(int,double) IllegalArgumentException,IllegalStateException",
        "int setLoad(int,int) IllegalArgumentException",
        "int loadCurrent(int) IllegalArgumentException",
        "double faultCurrent(int,int) IllegalArgumentException",
        "int setRelay(int,int,int,int) IllegalArgumentException",
        "int setInstantaneous(int,int) IllegalArgumentException",
        "int setShots(int,int) IllegalArgumentException",
        "boolean setStuck(int,boolean) IllegalArgumentException",
        "int pickup(int) IllegalArgumentException",
        "int steps(int) IllegalArgumentException",
        "int upstream(int) IllegalArgumentException",
        "double operatingTime(int,double) IllegalArgumentException",
        "double sensitivity(int) IllegalArgumentException",
        "double setMargin(double) IllegalArgumentException",
        "double margin(int,int) IllegalArgumentException,IllegalStateException",
        "int violationCount() ",
        "int violation(int) IndexOutOfBoundsException",
        "int autoPickup(int) IllegalArgumentException",
        "int autoGrade() ",
        "int simulate(int,int,double) IllegalArgumentException",
        "int eventCount() ",
        "int event(int) IndexOutOfBoundsException",
        "double eventTime(int) IndexOutOfBoundsException",
        "double clearedTime() ",
        "int openBreakers() ",
        "int lostLoad() ",
        "int closeAll() ",
        "int undo() IllegalStateException",
        "long digest() ",
    };

    public static void main(String[] args) throws IllegalAccessException {
        Class<?> face = FeederProtection.class;
        Check.same("public final", face.getModifiers(), Modifier.PUBLIC | Modifier.FINAL);
        Constructor<?>[] constructors = face.getDeclaredConstructors();
        Check.same("one constructor", constructors.length, 1);
        Check.same("it takes nothing", constructors[0].getParameterCount(), 0);
        Check.same("it is public", constructors[0].getModifiers(), Modifier.PUBLIC);
        TreeSet<String> methods = new TreeSet<>();
        TreeSet<String> publicNames = new TreeSet<>();
        for (Method m : face.getDeclaredMethods()) {
            if (!m.isSynthetic() && !Modifier.isPrivate(m.getModifiers())) {
                methods.add(text(m));
                publicNames.add(m.getName());
                Check.same(m + " is public", m.getModifiers(), Modifier.PUBLIC);
            }
        }
        TreeSet<String> due = new TreeSet<>(Arrays.asList(METHODS));
        Check.same("the methods", methods.toString(), due.toString());
        privateNames(face, publicNames);
        constants(face);
        Check.finish("FaceTest");
    }

    private static String text(Method m) {
        return m.getReturnType().getName() + " " + m.getName() + "(" + names(m.getParameterTypes())
            + ") " + names(m.getExceptionTypes());
    }

    private static String names(Class<?>[] types) {
        StringBuilder all = new StringBuilder();
        for (Class<?> type : types) {
            all.append(all.length() == 0 ? "" : ",").append(type.getSimpleName());
        }
        return all.toString();
    }

    private static void privateNames(Class<?> face, TreeSet<String> publicNames) {
        privateNamesOf(face, publicNames);
        for (Class<?> inside : face.getDeclaredClasses()) {
            privateNamesOf(inside, publicNames);
        }
    }

    private static void privateNamesOf(Class<?> one, TreeSet<String> publicNames) {
        for (Method m : one.getDeclaredMethods()) {
            if (Modifier.isPrivate(m.getModifiers())) {
                Check.same(m + " bears a public name", publicNames.contains(m.getName()), false);
            }
        }
    }

    private static void constants(Class<?> face) throws IllegalAccessException {
        TreeSet<String> got = new TreeSet<>();
        int constant = Modifier.PUBLIC | Modifier.STATIC | Modifier.FINAL;
        for (Field f : face.getDeclaredFields()) {
            if (!Modifier.isPrivate(f.getModifiers())) {
                Check.same(f + " is a constant", f.getModifiers(), constant);
                got.add(f.getType() + " " + f.getName() + " " + f.get(null));
            }
        }
        Check.same("the constants", got.toString(), "[int CLOSE 3, int DEFINITE 0, "
            + "int EXTREMELY_INVERSE 2, int LONG_INVERSE 3, int NONE -1, int OPEN 2, int STUCK 1, "
            + "int TRIP 0, int VERY_INVERSE 1]");
    }
}
