import java.lang.reflect.Constructor;
import java.lang.reflect.Field;
import java.lang.reflect.Method;
import java.lang.reflect.Modifier;
import java.util.Set;
import java.util.TreeSet;

/** The class has the document's face, and nothing else of it can be seen from outside. */
public final class FaceTest {
    private static final Set<String> FACE = Set.of(
            "boolean unit(int)", "int read()", "int told(int)", "int run()",
            "int answer(int,int,int)", "int truth(int,int)", "int often(int,int,int)",
            "boolean spare(int)", "int cross()", "int step(int,int)", "int may(int,int)",
            "int mayBe(int)");

    private static final Due due = new Due("FaceTest");

    public static void main(String[] args) {
        Class<?> face = ClueLogic.class;
        due.is("modifiers", face.getModifiers(), Modifier.PUBLIC | Modifier.FINAL);
        due.holds("no package", face.getPackageName().isEmpty());
        due.holds("no class above", face.getSuperclass() == Object.class && face.getInterfaces().length == 0);
        due.is("constructors", face.getDeclaredConstructors().length, 1);
        for (Constructor<?> constructor : face.getDeclaredConstructors()) {
            due.is("modifiers of " + constructor, constructor.getModifiers(), Modifier.PUBLIC);
            due.is("parameters of " + constructor, constructor.getParameterCount(), 0);
        }
        methods(face);
        for (Field field : face.getDeclaredFields()) {
            due.holds(field + " is private", Modifier.isPrivate(field.getModifiers()));
            if (Modifier.isStatic(field.getModifiers())) {
                due.holds(field + " is final", Modifier.isFinal(field.getModifiers()));
            }
        }
        for (Class<?> inside : face.getDeclaredClasses()) {
            int modifiers = inside.getModifiers();
            due.holds(inside + " is static", Modifier.isStatic(modifiers));
            due.holds(inside + " is not seen", !Modifier.isPublic(modifiers) && !Modifier.isProtected(modifiers));
        }
        due.end();
    }

    private static void methods(Class<?> face) {
        Set<String> names = new TreeSet<>();
        for (String each : FACE) {
            names.add(each.substring(each.indexOf(' ') + 1, each.indexOf('(')));
        }
        Set<String> seen = new TreeSet<>();
        for (Method method : face.getDeclaredMethods()) {
            if (Modifier.isPrivate(method.getModifiers())) {
                due.holds(method + " has a name of its own", !names.contains(method.getName()));
            } else {
                due.is("modifiers of " + method, method.getModifiers(), Modifier.PUBLIC);
                seen.add(signature(method));
            }
        }
        due.holds("the face is " + seen, seen.equals(FACE));
    }

    private static String signature(Method method) {
        StringBuilder parameters = new StringBuilder();
        for (Class<?> parameter : method.getParameterTypes()) {
            parameters.append(parameters.length() == 0 ? "" : ",").append(parameter.getName());
        }
        return method.getReturnType().getName() + " " + method.getName() + "(" + parameters + ")";
    }
}
