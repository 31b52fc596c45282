import java.lang.reflect.Constructor;
import java.lang.reflect.Field;
import java.lang.reflect.Method;
import java.lang.reflect.Modifier;
import java.util.Arrays;
import java.util.TreeSet;

/** The class has the document's face, and shows nothing else. */
public final class FaceTest {
    private static final String[] METHODS = {"int setLayout(int, int, int, int)", "int write(int, int, int)", "int alter(int, int, int)",
        "int lose(int, int)", "int loseNode(int)", "int mend(int, int)", "int mendNode(int)", "int work(int)", "int scrub()", "int type(char)",
        "int clearText()", "int perform()", "int undo()", "int keep()", "int restore()", "int value(int, int)", "int node(int, int)",
        "int load(int)", "int lost(int)", "int waiting(int)", "int failing(int)", "int total(int)", "int way(int, int)", "int reads(int, int)",
        "int mended(int, int)", "int culprit(int)", "int survives(int)", "int fatalSets(int)", "int fatalNodes()", "int busiest()"};
    private static final String[] CONSTANTS = {"UNKNOWN -1", "OUT_OF_RANGE -2", "FULL -3", "NOT_POSSIBLE -4", "NONE -5"};
    private static int wrong = 0;

    private static void check(boolean good, String what) {
        if (!good) {
            wrong++;
            System.out.println("FaceTest: " + what);
        }
    }

    public static void main(String[] args) throws Exception {
        Class<?> face = LocalMenders.class;
        check(face.getModifiers() == (Modifier.PUBLIC | Modifier.FINAL), "the class is public and final");
        check(face.getPackageName().isEmpty(), "the class has no package");
        methods(face);
        constants(face);
        Constructor<?>[] constructors = face.getDeclaredConstructors();
        check(constructors.length == 1 && constructors[0].getModifiers() == Modifier.PUBLIC && constructors[0].getParameterCount() == 0,
            "there is one public constructor without parameters");
        for (Class<?> inside : face.getDeclaredClasses()) {
            int modifiers = inside.getModifiers();
            check(Modifier.isStatic(modifiers) && !Modifier.isPublic(modifiers) && !Modifier.isProtected(modifiers), inside + " is static and hidden");
            for (Method method : inside.getDeclaredMethods()) {
                check(!isPublicName(method.getName()), inside + " has a method with the public name " + method.getName());
            }
        }
        System.out.println(wrong == 0 ? "FaceTest: the face is as due" : "FaceTest: " + wrong + " faults");
        if (wrong != 0) {
            System.exit(1);
        }
    }

    private static boolean isPublicName(String name) {
        return Arrays.stream(METHODS).anyMatch(method -> method.startsWith("int " + name + "("));
    }

    private static void methods(Class<?> face) {
        TreeSet<String> found = new TreeSet<>();
        for (Method method : face.getDeclaredMethods()) {
            if (method.getModifiers() == Modifier.PUBLIC) {
                StringBuilder types = new StringBuilder();
                for (Class<?> type : method.getParameterTypes()) {
                    types.append(types.length() == 0 ? "" : ", ").append(type);
                }
                found.add(method.getReturnType() + " " + method.getName() + "(" + types + ")");
            } else {
                check(Modifier.isPrivate(method.getModifiers()), method + " is private");
                check(!isPublicName(method.getName()), method + " has a name of its own");
            }
        }
        check(found.equals(new TreeSet<>(Arrays.asList(METHODS))), "the public methods are " + found);
    }

    private static void constants(Class<?> face) throws Exception {
        TreeSet<String> found = new TreeSet<>();
        for (Field field : face.getDeclaredFields()) {
            if (Modifier.isPublic(field.getModifiers())) {
                check(field.getType() == int.class && Modifier.isStatic(field.getModifiers()) && Modifier.isFinal(field.getModifiers()),
                    field + " is a constant");
                found.add(field.getName() + " " + field.getInt(null));
            } else {
                check(Modifier.isPrivate(field.getModifiers()), field + " is private");
                check(!Modifier.isStatic(field.getModifiers()) || Modifier.isFinal(field.getModifiers()), field + " is no static state");
            }
        }
        check(found.equals(new TreeSet<>(Arrays.asList(CONSTANTS))), "the constants are " + found);
    }
}
