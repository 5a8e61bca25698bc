import java.io.IOException;
import java.lang.reflect.Constructor;
import java.lang.reflect.Executable;
import java.lang.reflect.Field;
import java.lang.reflect.Method;
import java.lang.reflect.Modifier;
import java.util.Arrays;
import java.util.Set;
import java.util.TreeSet;
import java.util.stream.Collectors;

/** The class shows the document's face and nothing more, and has no state that objects share. */
public final class FaceTest {
    private static int wrong = 0;

    public static void main(String[] args) throws IOException {
        want(Modifier.isFinal(SyncHall.class.getModifiers()), "the class is final");
        want(Modifier.isPublic(SyncHall.class.getModifiers()), "the class is public");
        wantFace(Document.read().face());
        wantPrivateFields();
        wantOwnNames();
        wantNoSharedState(SyncHall.class);
        for (Class<?> inside : SyncHall.class.getDeclaredClasses()) {
            want(Modifier.isStatic(inside.getModifiers()), inside + " is static");
            wantNoSharedState(inside);
        }
        System.out.println("the face: " + wrong + " wrong");
        System.exit(wrong == 0 ? 0 : 1);
    }

    private static void want(boolean holds, String what) {
        if (!holds) {
            wrong++;
            System.out.println("not so: " + what);
        }
    }

    private static void wantFace(Set<String> due) {
        Set<String> shown = new TreeSet<>();
        for (Constructor<?> constructor : SyncHall.class.getDeclaredConstructors()) {
            shown.add("SyncHall" + parameters(constructor) + exceptions(constructor));
        }
        for (Method method : SyncHall.class.getDeclaredMethods()) {
            if (!Modifier.isPrivate(method.getModifiers())) {
                want(Modifier.isPublic(method.getModifiers()), method + " is public");
                shown.add(method.getReturnType().getSimpleName() + " " + method.getName()
                        + parameters(method) + exceptions(method));
            }
        }
        want(shown.equals(due), "the face is " + due + ", but it was " + shown);
    }

    private static String parameters(Executable call) {
        return Arrays.stream(call.getParameterTypes()).map(Class::getSimpleName)
                .collect(Collectors.joining(", ", "(", ")"));
    }

    private static String exceptions(Executable call) {
        return Arrays.stream(call.getExceptionTypes()).map(type -> " " + type.getSimpleName())
                .collect(Collectors.joining());
    }

    private static void wantPrivateFields() {
        for (Field field : SyncHall.class.getDeclaredFields()) {
            want(Modifier.isPrivate(field.getModifiers()), field + " is private");
        }
    }

    private static void wantOwnNames() {
        Set<String> taken = new TreeSet<>();
        for (Method method : SyncHall.class.getMethods()) {
            taken.add(method.getName());
        }
        for (Method method : SyncHall.class.getDeclaredMethods()) {
            boolean shown = Modifier.isPublic(method.getModifiers());
            want(shown || !taken.contains(method.getName()), method + " bears no public name");
        }
        for (Class<?> inside : SyncHall.class.getDeclaredClasses()) {
            for (Method method : inside.getDeclaredMethods()) {
                want(!taken.contains(method.getName()), method + " bears no public name");
            }
        }
    }

    private static void wantNoSharedState(Class<?> type) {
        for (Field field : type.getDeclaredFields()) {
            boolean shared = Modifier.isStatic(field.getModifiers());
            want(!shared || Modifier.isFinal(field.getModifiers()), field + " is final");
            want(!shared || field.getType() == int.class, field + " is a constant of int");
        }
    }
}
