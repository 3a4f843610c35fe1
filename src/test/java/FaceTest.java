import java.lang.reflect.Constructor;
import java.lang.reflect.Field;
import java.lang.reflect.Method;
import java.lang.reflect.Modifier;
import java.util.HashSet;
import java.util.Set;
import java.util.TreeSet;

/** The class has the document's face and no other member that is not private. */
public final class FaceTest {
    private static final String ARGUMENT = "IllegalArgumentException";
    private static final String STATE = "IllegalStateException";
    private static final String ELEMENT = "NoSuchElementException";
    private static final String BOUNDS = "IndexOutOfBoundsException";

    private static final Set<String> DUE = Set.of(
            "HostBridge() throws",
            "int klass(int) throws " + ARGUMENT + " " + STATE,
            "int method(int,int,int,int,int) throws " + ARGUMENT + " " + STATE,
            "int object(int) throws " + ARGUMENT + " " + STATE,
            "int argument(int,long) throws " + ARGUMENT + " " + STATE,
            "int weight(int,int) throws " + ARGUMENT,
            "int call(int,int) throws " + ARGUMENT + " " + ELEMENT + " " + STATE,
            "int exact(int,int,int) throws " + ARGUMENT + " " + ELEMENT,
            "void answer(long) throws " + STATE,
            "long given() throws " + STATE,
            "int calls() throws",
            "int look(int,int) throws " + ARGUMENT + " " + BOUNDS,
            "long converted(int,int) throws " + BOUNDS);

    public static void main(String[] args) {
        theFace();
        otherMembersArePrivate();
        classesInside();
        noPrivateMethodHasAPublicName();
        int modifiers = HostBridge.class.getModifiers();
        Check.due("the class is public and final",
                modifiers & (Modifier.PUBLIC | Modifier.FINAL), Modifier.PUBLIC | Modifier.FINAL);
        Check.end();
    }

    private static void theFace() {
        Set<String> got = new TreeSet<>();
        for (Constructor<?> each : HostBridge.class.getDeclaredConstructors()) {
            got.add("HostBridge" + list(each.getParameterTypes()) + thrown(each.getExceptionTypes()));
            Check.due("the constructor is public", each.getModifiers() & Modifier.PUBLIC, Modifier.PUBLIC);
        }
        for (Method each : HostBridge.class.getDeclaredMethods()) {
            if (Modifier.isPublic(each.getModifiers())) {
                got.add(each.getReturnType() + " " + each.getName() + list(each.getParameterTypes())
                        + thrown(each.getExceptionTypes()));
                Check.due(each.getName() + " is an object's", each.getModifiers() & Modifier.STATIC, 0);
            }
        }
        if (!got.equals(DUE)) {
            Check.complain("the face is " + got + ", due is " + new TreeSet<>(DUE));
        }
    }

    private static void otherMembersArePrivate() {
        for (Method each : HostBridge.class.getDeclaredMethods()) {
            if (!Modifier.isPublic(each.getModifiers()) && !Modifier.isPrivate(each.getModifiers())) {
                Check.complain("a method is neither public nor private: " + each);
            }
        }
        for (Field each : HostBridge.class.getDeclaredFields()) {
            if (!Modifier.isPrivate(each.getModifiers())) {
                Check.complain("a field is not private: " + each);
            }
        }
    }

    private static void classesInside() {
        for (Class<?> each : HostBridge.class.getDeclaredClasses()) {
            int modifiers = each.getModifiers();
            if (!Modifier.isStatic(modifiers) || Modifier.isPublic(modifiers) || Modifier.isProtected(modifiers)) {
                Check.complain("a class inside is seen from outside, or is not static: " + each);
            }
        }
    }

    private static void noPrivateMethodHasAPublicName() {
        Set<String> names = new HashSet<>();
        for (Method each : HostBridge.class.getDeclaredMethods()) {
            if (Modifier.isPublic(each.getModifiers())) {
                names.add(each.getName());
            }
        }
        for (Method each : HostBridge.class.getDeclaredMethods()) {
            if (Modifier.isPrivate(each.getModifiers()) && names.contains(each.getName())) {
                Check.complain("a private method bears a public one's name: " + each);
            }
        }
    }

    private static String list(Class<?>[] types) {
        StringBuilder text = new StringBuilder("(");
        for (int i = 0; i < types.length; i++) {
            text.append(i == 0 ? "" : ",").append(types[i]);
        }
        return text.append(")").toString();
    }

    private static String thrown(Class<?>[] types) {
        StringBuilder text = new StringBuilder(" throws");
        for (Class<?> each : types) {
            text.append(" ").append(each.getSimpleName());
        }
        return text.toString();
    }
}
