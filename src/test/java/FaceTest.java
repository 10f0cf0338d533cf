import java.lang.reflect.Constructor;
import java.lang.reflect.Field;
import java.lang.reflect.Method;
import java.lang.reflect.Modifier;
import java.util.TreeSet;

/** The public face is the document's, with nothing beside it. */
public final class FaceTest {
    private static final String[] METHODS = {
        "int create(int,int)", "int remove(int)", "int write(int,int,int,int)", "long read(int,int)",
        "int fail(int)", "int replace(int)", "int alter(int,int,int)", "int rebuild(int)",
        "int moveBack(int)", "int scrub(int)", "int file(int,int)", "int stripe(int,int)",
        "int disk(int,int)", "int count(int)",
    };

    public static void main(String[] args) throws ReflectiveOperationException {
        Checks checks = new Checks("face");
        constants(checks);
        methods(checks);
        classes(checks);
        checks.end();
    }

    private static void constants(Checks checks) throws ReflectiveOperationException {
        String[] names = {"DONE", "REFUSED", "FULL", "BROKEN", "CRASHED", "NONE", "UNREADABLE"};
        long[] values = {0, -1, -2, -3, -4, -1000000000000L, -3000000000000L};
        for (int i = 0; i < names.length; i++) {
            Field field = SpreadParity.class.getDeclaredField(names[i]);
            checks.due(names[i], field.getLong(null), values[i]);
            checks.due(names[i] + " is a long", field.getType() == long.class ? 1 : 0, i >= 5 ? 1 : 0);
            checks.due(names[i] + " is public, static and final", field.getModifiers(),
                    Modifier.PUBLIC | Modifier.STATIC | Modifier.FINAL);
        }
        int open = 0;
        for (Field field : SpreadParity.class.getDeclaredFields()) {
            if (!Modifier.isPrivate(field.getModifiers())) {
                open++;
            }
            if (Modifier.isStatic(field.getModifiers())) {
                checks.due(field.getName() + " is final", Modifier.isFinal(field.getModifiers()) ? 1 : 0, 1);
            }
        }
        checks.due("fields that are not private", open, names.length);
    }

    private static void methods(Checks checks) {
        TreeSet<String> wanted = new TreeSet<>();
        TreeSet<String> names = new TreeSet<>();
        for (String method : METHODS) {
            wanted.add(method);
            names.add(method.substring(method.indexOf(' ') + 1, method.indexOf('(')));
        }
        TreeSet<String> got = new TreeSet<>();
        for (Method method : SpreadParity.class.getDeclaredMethods()) {
            if (Modifier.isPrivate(method.getModifiers())) {
                checks.due(method.getName() + " is private and bears a public name",
                        names.contains(method.getName()) ? 1 : 0, 0);
                continue;
            }
            StringBuilder text = new StringBuilder(method.getReturnType() + " " + method.getName() + "(");
            for (Class<?> type : method.getParameterTypes()) {
                text.append(text.charAt(text.length() - 1) == '(' ? "" : ",").append(type);
            }
            got.add(text + ")");
        }
        checks.due("methods " + got, got.equals(wanted) ? 1 : 0, 1);
        Constructor<?>[] constructors = SpreadParity.class.getDeclaredConstructors();
        checks.due("constructors", constructors.length, 1);
        checks.due("constructor is public", constructors[0].getModifiers(), Modifier.PUBLIC);
    }

    private static void classes(Checks checks) {
        checks.due("the class is public and final", SpreadParity.class.getModifiers(),
                Modifier.PUBLIC | Modifier.FINAL);
        for (Class<?> inside : SpreadParity.class.getDeclaredClasses()) {
            int modifiers = inside.getModifiers();
            checks.due(inside.getName() + " is static", Modifier.isStatic(modifiers) ? 1 : 0, 1);
            checks.due(inside.getName() + " is not open",
                    Modifier.isPublic(modifiers) || Modifier.isProtected(modifiers) ? 1 : 0, 0);
        }
    }
}
