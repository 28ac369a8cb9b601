import java.lang.reflect.Constructor;
import java.lang.reflect.Field;
import java.lang.reflect.Method;
import java.lang.reflect.Modifier;
import java.util.Set;
import java.util.TreeSet;

/** The class shows the document's face and nothing else, and no private method bears the name of a public one. */
public final class FaceTest {
    private static final String[] METHODS = {
        "int type(int)", "int clear()", "int bounds(int)", "int adds()", "int takes()", "int undo()", "int times()",
        "int rank()", "int begin()", "int depth()", "int container(int)", "int telling()", "int longest()",
        "int like(int)", "int odds(int)", "int kth(int,int)", "int unlike(int,int)", "int next(int)",
        "int top(int,int)", "int sees(int,int,int)", "int forget()", "int fit(int)", "int ask()", "int count(int)",
        "long digest()"};

    public static void main(String[] args) throws IllegalAccessException {
        Checks checks = new Checks();
        checks.holds("the class is public and final",
                (BurstWords.class.getModifiers() & (Modifier.PUBLIC | Modifier.FINAL))
                        == (Modifier.PUBLIC | Modifier.FINAL));
        methods(checks);
        fields(checks);
        Constructor<?>[] made = BurstWords.class.getDeclaredConstructors();
        checks.due("constructors", made.length, 1);
        checks.holds("the constructor is public, without parameters",
                Modifier.isPublic(made[0].getModifiers()) && made[0].getParameterCount() == 0);
        for (Class<?> inside : BurstWords.class.getDeclaredClasses()) {
            checks.holds(inside + " is static, and private or package-visible",
                    Modifier.isStatic(inside.getModifiers())
                            && !Modifier.isPublic(inside.getModifiers())
                            && !Modifier.isProtected(inside.getModifiers()));
        }
        checks.finish();
    }

    private static void methods(Checks checks) {
        Set<String> wanted = new TreeSet<>(Set.of(METHODS));
        Set<String> names = new TreeSet<>();
        for (Method method : BurstWords.class.getDeclaredMethods()) {
            if (!Modifier.isPrivate(method.getModifiers())) {
                String face = method.getReturnType() + " " + method.getName() + parameters(method);
                checks.holds(face + " is in the document, public and no static one", wanted.remove(face)
                        && Modifier.isPublic(method.getModifiers()) && !Modifier.isStatic(method.getModifiers()));
                names.add(method.getName());
            }
        }
        checks.holds("nothing is missing: " + wanted, wanted.isEmpty());
        for (Method method : BurstWords.class.getDeclaredMethods()) {
            checks.holds("private " + method.getName(),
                    !Modifier.isPrivate(method.getModifiers()) || !names.contains(method.getName()));
        }
        for (Class<?> inside : BurstWords.class.getDeclaredClasses()) {
            for (Method method : inside.getDeclaredMethods()) {
                checks.holds(inside + " " + method.getName(), !names.contains(method.getName()));
            }
        }
    }

    private static String parameters(Method method) {
        StringBuilder text = new StringBuilder("(");
        for (Class<?> type : method.getParameterTypes()) {
            text.append(text.length() > 1 ? "," : "").append(type.getName());
        }
        return text.append(')').toString();
    }

    private static void fields(Checks checks) throws IllegalAccessException {
        int constants = 0;
        for (Field field : BurstWords.class.getDeclaredFields()) {
            boolean constant = Modifier.isStatic(field.getModifiers()) && Modifier.isFinal(field.getModifiers());
            checks.holds(field + " is a constant or its object's own",
                    constant || !Modifier.isStatic(field.getModifiers()));
            if (!Modifier.isPrivate(field.getModifiers())) {
                constants++;
                checks.holds(field + " is a public int constant", constant && field.getType() == int.class
                        && Modifier.isPublic(field.getModifiers()));
                checks.due(field.getName(), field.getInt(null), valueOf(field.getName()));
            }
        }
        checks.due("constants", constants, 4);
    }

    private static int valueOf(String name) {
        return switch (name) {
            case "BAD" -> -1;
            case "STATE" -> -2;
            case "FULL" -> -3;
            case "NONE" -> -9;
            default -> 0;
        };
    }
}
