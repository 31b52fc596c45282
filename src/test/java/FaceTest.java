import java.lang.reflect.Constructor;
import java.lang.reflect.Field;
import java.lang.reflect.Method;
import java.lang.reflect.Modifier;
import java.util.ArrayList;
import java.util.List;
import java.util.TreeSet;

/** The class has the face that stands in ../shared/DOC.md, and shows nothing else. It is run from the project's folder. */
public final class FaceTest {
    private static int wrong = 0;

    private static void check(boolean good, String what) {
        if (!good) {
            wrong++;
            System.out.println("FaceTest: " + what);
        }
    }

    public static void main(String[] args) throws Exception {
        List<String> lines = Page.document().below("## The public face").code("java").get(0);
        TreeSet<String> due = new TreeSet<>();
        for (String line : lines.subList(1, lines.size() - 1)) {
            // the names of the arguments cannot be seen from outside
            due.add(line.strip().replaceAll("\\b(int|char) \\w+([,)])", "$1$2"));
        }
        check(due.size() == 36, "the document shows 5 constants, a constructor and 30 methods: " + due);
        Class<?> face = LocalMenders.class;
        check(lines.get(0).equals(Modifier.toString(face.getModifiers()) + " class " + face.getName() + " {"), "the class is " + face);
        TreeSet<String> found = new TreeSet<>();
        found.addAll(constants(face));
        found.addAll(constructors(face));
        found.addAll(methods(face));
        check(found.equals(due), "there is " + found + ", due is " + due);
        insides(face);
        System.out.println(wrong == 0 ? "FaceTest: the face is as due" : "FaceTest: " + wrong + " faults");
        if (wrong != 0) {
            System.exit(1);
        }
    }

    private static List<String> constants(Class<?> face) throws IllegalAccessException {
        List<String> found = new ArrayList<>();
        for (Field field : face.getDeclaredFields()) {
            String modifiers = Modifier.toString(field.getModifiers());
            if (!Modifier.isPrivate(field.getModifiers())) {
                check(modifiers.equals("public static final"), field + " is a constant");
                found.add(modifiers + " " + field.getType() + " " + field.getName() + " = " + field.get(null) + ";");
            } else {
                check(!Modifier.isStatic(field.getModifiers()) || Modifier.isFinal(field.getModifiers()), field + " is no static state");
            }
        }
        return found;
    }

    private static List<String> constructors(Class<?> face) {
        List<String> found = new ArrayList<>();
        for (Constructor<?> constructor : face.getDeclaredConstructors()) {
            found.add(constructor + ";");
        }
        return found;
    }

    private static List<String> methods(Class<?> face) {
        List<String> found = new ArrayList<>();
        for (Method method : face.getDeclaredMethods()) {
            if (Modifier.isPrivate(method.getModifiers())) {
                check(!isPublicName(method.getName()), method + " has a name of its own");
            } else {
                found.add(Modifier.toString(method.getModifiers()) + " " + method.getReturnType() + " " + method.getName()
                    + method.toString().replaceAll(".*(\\(.*)", "$1").replace(",", ", ") + ";");
            }
        }
        return found;
    }

    private static void insides(Class<?> face) {
        for (Class<?> inside : face.getDeclaredClasses()) {
            int modifiers = inside.getModifiers();
            check(Modifier.isStatic(modifiers) && !Modifier.isPublic(modifiers) && !Modifier.isProtected(modifiers), inside + " is static and hidden");
            for (Method method : inside.getDeclaredMethods()) {
                check(!isPublicName(method.getName()), inside + " has a method with the public name " + method.getName());
            }
        }
    }

    private static boolean isPublicName(String name) {
        for (Method method : LocalMenders.class.getDeclaredMethods()) {
            if (Modifier.isPublic(method.getModifiers()) && method.getName().equals(name)) {
                return true;
            }
        }
        return false;
    }
}
