import java.lang.reflect.Constructor;
import java.lang.reflect.Field;
import java.lang.reflect.Method;
import java.lang.reflect.Modifier;
import java.util.Set;
import java.util.TreeSet;

/** The public face: what the document lists, and nothing else that is not private. */
public final class FaceTest {
    private static final Set<String> FACE = Set.of(
        "write(char) boolean", "load() int", "start() int", "state() int", "result() int",
        "stop(int,int,boolean) boolean", "unstop(int) int", "hits(int) int", "watch(boolean) void",
        "go(int,int) int", "points() int", "depth() int", "line(int) int", "function(int) int",
        "variable(int,int) int", "set(int,int,int) boolean", "evaluate(int) int", "value() int",
        "output(int) int", "note(int) int");

    private static final Checks checks = new Checks();

    public static void main(String[] args) {
        theClassIsPublicAndFinal();
        theMethodsAreThoseOfTheDocument();
        theConstantIsTheOnlyOpenField();
        theConstructorIsPublic();
        noPrivateMethodBearsAPublicName();
        staticFieldsAreFinal();
        checks.end();
    }

    private static void theClassIsPublicAndFinal() {
        int modifiers = StopDesk.class.getModifiers();
        checks.due("public", Modifier.isPublic(modifiers), true);
        checks.due("final", Modifier.isFinal(modifiers), true);
    }

    private static void theMethodsAreThoseOfTheDocument() {
        Set<String> open = new TreeSet<>();
        for (Method method : StopDesk.class.getDeclaredMethods()) {
            if (!Modifier.isPrivate(method.getModifiers())) {
                open.add(described(method));
                checks.due("public " + method, Modifier.isPublic(method.getModifiers()), true);
            }
        }
        checks.due("methods " + open, open.equals(FACE), true);
    }

    private static String described(Method method) {
        StringBuilder text = new StringBuilder(method.getName()).append('(');
        for (Class<?> parameter : method.getParameterTypes()) {
            text.append(text.charAt(text.length() - 1) == '(' ? "" : ",").append(parameter.getName());
        }
        return text.append(") ").append(method.getReturnType().getName()).toString();
    }

    private static void theConstantIsTheOnlyOpenField() {
        checks.due("NONE", StopDesk.NONE, -1);
        for (Field field : StopDesk.class.getDeclaredFields()) {
            boolean open = !Modifier.isPrivate(field.getModifiers());
            checks.due("open " + field, open, field.getName().equals("NONE"));
        }
    }

    private static void theConstructorIsPublic() {
        Constructor<?>[] constructors = StopDesk.class.getDeclaredConstructors();
        checks.due("constructors", constructors.length, 1);
        checks.due("parameters", constructors[0].getParameterCount(), 0);
        checks.due("public constructor", Modifier.isPublic(constructors[0].getModifiers()), true);
    }

    private static void noPrivateMethodBearsAPublicName() {
        Set<String> names = new TreeSet<>();
        for (String method : FACE) {
            names.add(method.substring(0, method.indexOf('(')));
        }
        for (Class<?> inside : StopDesk.class.getDeclaredClasses()) {
            checks.due("static " + inside, Modifier.isStatic(inside.getModifiers()), true);
            for (Method method : inside.getDeclaredMethods()) {
                checks.due("name of " + method, names.contains(method.getName()), false);
            }
        }
        for (Method method : StopDesk.class.getDeclaredMethods()) {
            boolean hidden = Modifier.isPrivate(method.getModifiers());
            checks.due("name of " + method, hidden && names.contains(method.getName()), false);
        }
    }

    private static void staticFieldsAreFinal() {
        for (Field field : StopDesk.class.getDeclaredFields()) {
            int modifiers = field.getModifiers();
            checks.due("final " + field, Modifier.isStatic(modifiers) && !Modifier.isFinal(modifiers), false);
        }
        for (Class<?> inside : StopDesk.class.getDeclaredClasses()) {
            for (Field field : inside.getDeclaredFields()) {
                checks.due("static " + field, Modifier.isStatic(field.getModifiers()), false);
            }
        }
    }
}
