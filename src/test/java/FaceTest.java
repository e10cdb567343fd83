import java.lang.reflect.Constructor;
import java.lang.reflect.Field;
import java.lang.reflect.Method;
import java.lang.reflect.Modifier;
import java.util.Set;
import java.util.TreeSet;

/** The class has the document's face and nothing else that can be seen from outside. */
public final class FaceTest {
    private static final Set<String> METHODS = Set.of(
        "int letter(int)", "int blank()", "int fault()", "int market()", "int about(int,int)", "int as(int,int)",
        "int measure(int,int,int)", "int buy(int,int,int)", "int hour()", "int plan(int,int,int)",
        "int fair(int,int)", "int pass(int)", "int lose(int)", "int clear()", "int rubbed(int)", "int watch()",
        "int markets(int,int,int)", "int image()", "int restore()", "int count(int)", "long digest()");
    private static final Set<String> CONSTANTS = Set.of("NONE", "UNKNOWN", "OUTSIDE", "STATE", "FULL");

    public static void main(String[] args) {
        Check check = new Check();
        check.due("final", Modifier.isFinal(BuyersWeights.class.getModifiers()) ? 1 : 0, 1);
        checkMethods(check);
        checkFields(check);
        checkConstructors(check);
        for (Class<?> inside : BuyersWeights.class.getDeclaredClasses()) {
            check.due(inside + " is static", Modifier.isStatic(inside.getModifiers()) ? 1 : 0, 1);
            for (Method method : inside.getDeclaredMethods()) {
                check.due(method + " bears no name of the face", isNameOfFace(method.getName()) ? 1 : 0, 0);
            }
        }
        check.end("FaceTest");
    }

    private static void checkMethods(Check check) {
        Set<String> seen = new TreeSet<>();
        for (Method method : BuyersWeights.class.getDeclaredMethods()) {
            if (Modifier.isPublic(method.getModifiers())) {
                seen.add(signature(method));
            } else {
                check.due(method + " is private", Modifier.isPrivate(method.getModifiers()) ? 1 : 0, 1);
                check.due(method + " bears no name of the face", isNameOfFace(method.getName()) ? 1 : 0, 0);
            }
        }
        check.due("the public methods, there are " + seen + ",", seen.equals(new TreeSet<>(METHODS)) ? 1 : 0, 1);
    }

    private static void checkFields(Check check) {
        for (Field field : BuyersWeights.class.getDeclaredFields()) {
            int modifiers = field.getModifiers();
            boolean ofFace = CONSTANTS.contains(field.getName());
            check.due(field + " is seen", Modifier.isPublic(modifiers) ? 1 : 0, ofFace ? 1 : 0);
            check.due(field + " is private", Modifier.isPrivate(modifiers) ? 1 : 0, ofFace ? 0 : 1);
            if (Modifier.isStatic(modifiers)) {
                check.due(field + " is final", Modifier.isFinal(modifiers) ? 1 : 0, 1);
            }
        }
        check.due("NONE", BuyersWeights.NONE, -1);
        check.due("UNKNOWN", BuyersWeights.UNKNOWN, -101);
        check.due("OUTSIDE", BuyersWeights.OUTSIDE, -102);
        check.due("STATE", BuyersWeights.STATE, -103);
        check.due("FULL", BuyersWeights.FULL, -104);
    }

    private static void checkConstructors(Check check) {
        Constructor<?>[] constructors = BuyersWeights.class.getDeclaredConstructors();
        check.due("constructors", constructors.length, 1);
        check.due("its parameters", constructors[0].getParameterCount(), 0);
        check.due("it is public", Modifier.isPublic(constructors[0].getModifiers()) ? 1 : 0, 1);
    }

    private static boolean isNameOfFace(String name) {
        for (String method : METHODS) {
            if (method.contains(" " + name + "(")) {
                return true;
            }
        }
        return false;
    }

    private static String signature(Method method) {
        StringBuilder text = new StringBuilder();
        text.append(method.getReturnType().getName()).append(' ').append(method.getName()).append('(');
        Class<?>[] parameters = method.getParameterTypes();
        for (int at = 0; at < parameters.length; at++) {
            text.append(at == 0 ? "" : ",").append(parameters[at].getName());
        }
        return text.append(')').toString();
    }
}
