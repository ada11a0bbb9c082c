import java.lang.reflect.Constructor;
import java.lang.reflect.Field;
import java.lang.reflect.Method;
import java.lang.reflect.Modifier;
import java.util.Set;
import java.util.TreeSet;

/** The public face is the document's: its constants, the constructor, 27 methods, and no more. */
public final class FaceTest {
    private static final String[] METHODS = {
        "int add(int,int,int)", "int remove(int)", "int setPoint(int,int,int)", "int mirror(int)",
        "int lay()", "int undo()", "int points()", "int pointInfo(int,int)", "int groups()",
        "int groupInfo(int,int)", "long fit(int,int,int)", "long error(int,int)", "int turn(int)",
        "long turnError(int,int,int)", "int blocks(int)", "int blockInfo(int,int,int)",
        "int kinks(int)", "int kinkAt(int,int)", "long gap(int)", "long levelError(int,int)",
        "int levelBegin(int,int)", "int levels(int,int)", "long penaltyFor(int,int)",
        "int type(int)", "int clearText()", "int fault()", "int reason(int)"
    };

    public static void main(String[] args) {
        Checks checks = new Checks("FaceTest");
        checkConstants(checks);
        checkMembers(checks);
        checkMethods(checks);
        checks.finish();
    }

    private static void checkConstants(Checks checks) {
        checks.due(1, "INVALID_ARGUMENT", ShapeFits.INVALID_ARGUMENT, -1000001);
        checks.due(1, "NOT_POSSIBLE", ShapeFits.NOT_POSSIBLE, -1000002);
        checks.due(1, "LIMIT_REACHED", ShapeFits.LIMIT_REACHED, -1000003);
        checks.due(1, "NOT_FOUND", ShapeFits.NOT_FOUND, -1000004);
    }

    private static void checkMembers(Checks checks) {
        int open = 0;
        for (Field field : ShapeFits.class.getDeclaredFields()) {
            if (!Modifier.isPrivate(field.getModifiers())) {
                open++;
            }
        }
        checks.due(1, "fields that are not private", open, 4);
        Constructor<?>[] constructors = ShapeFits.class.getDeclaredConstructors();
        checks.due(1, "constructors", constructors.length, 1);
        checks.due(1, "parameters of the constructor", constructors[0].getParameterCount(), 0);
        int modifiers = ShapeFits.class.getModifiers();
        checks.due(1, "class is public and final",
                Modifier.isPublic(modifiers) && Modifier.isFinal(modifiers) ? 1 : 0, 1);
    }

    private static void checkMethods(Checks checks) {
        Set<String> found = new TreeSet<>();
        for (Method method : ShapeFits.class.getDeclaredMethods()) {
            if (!Modifier.isPrivate(method.getModifiers()) && !method.isSynthetic()) {
                checks.due(1, method + " is public", method.getModifiers(), Modifier.PUBLIC);
                found.add(signature(method));
            }
        }
        for (String method : METHODS) {
            checks.due(1, method + " stands", found.contains(method) ? 1 : 0, 1);
        }
        checks.due(1, "public methods", found.size(), METHODS.length);
    }

    private static String signature(Method method) {
        StringBuilder text = new StringBuilder();
        text.append(method.getReturnType().getName()).append(' ').append(method.getName());
        text.append('(');
        for (Class<?> parameter : method.getParameterTypes()) {
            if (text.charAt(text.length() - 1) != '(') {
                text.append(',');
            }
            text.append(parameter.getName());
        }
        return text.append(')').toString();
    }
}
