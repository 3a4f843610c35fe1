import java.lang.reflect.Constructor;
import java.lang.reflect.Field;
import java.lang.reflect.Method;
import java.lang.reflect.Modifier;
import java.util.Set;
import java.util.TreeSet;

/** The class has the document's face and no other member that is not private. */
public final class FaceTest {
    private static final Set<String> DUE = Set.of(
            "HostBridge()",
            "int klass(int)",
            "int method(int,int,int,int,int)",
            "int object(int)",
            "int argument(int,long)",
            "int weight(int,int)",
            "int call(int,int)",
            "int exact(int,int,int)",
            "void answer(long)",
            "long given()",
            "int calls()",
            "int look(int,int)",
            "long converted(int,int)");

    public static void main(String[] args) {
        Set<String> got = new TreeSet<>();
        for (Constructor<?> each : HostBridge.class.getDeclaredConstructors()) {
            got.add("HostBridge" + list(each.getParameterTypes()));
        }
        for (Method each : HostBridge.class.getDeclaredMethods()) {
            if (Modifier.isPublic(each.getModifiers())) {
                got.add(each.getReturnType() + " " + each.getName() + list(each.getParameterTypes()));
            } else if (!Modifier.isPrivate(each.getModifiers())) {
                Check.complain("a method is neither public nor private: " + each);
            }
        }
        for (Field each : HostBridge.class.getDeclaredFields()) {
            if (!Modifier.isPrivate(each.getModifiers())) {
                Check.complain("a field is not private: " + each);
            }
        }
        if (!got.equals(DUE)) {
            Check.complain("the face is " + got + ", due is " + new TreeSet<>(DUE));
        }
        int modifiers = HostBridge.class.getModifiers();
        Check.due("the class is public and final",
                modifiers & (Modifier.PUBLIC | Modifier.FINAL), Modifier.PUBLIC | Modifier.FINAL);
        Check.end();
    }

    private static String list(Class<?>[] types) {
        StringBuilder text = new StringBuilder("(");
        for (int i = 0; i < types.length; i++) {
            text.append(i == 0 ? "" : ",").append(types[i]);
        }
        return text.append(")").toString();
    }
}
