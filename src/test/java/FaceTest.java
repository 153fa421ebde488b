import java.lang.reflect.Constructor;
import java.lang.reflect.Field;
import java.lang.reflect.Method;
import java.lang.reflect.Modifier;
import java.util.Arrays;
import java.util.TreeSet;

/** The public face: its calls, and nothing else that can be reached from outside. */
public final class FaceTest {
    private static final String[] FACE = {
        "int feed(int,int,int,int,int) IllegalStateException",
        "int trim(int) IllegalArgumentException",
        "int compile()",
        "int errorAt()",
        "int count(int) IndexOutOfBoundsException",
        "int test()",
        "int suited()",
        "int food(int,int) IndexOutOfBoundsException",
        "int dish(int,int) IndexOutOfBoundsException",
        "int grams(int,int) IndexOutOfBoundsException",
        "int choice(int,boolean) IndexOutOfBoundsException",
        "int rule(int,int) IndexOutOfBoundsException",
        "int plan(int) IllegalArgumentException IllegalStateException",
        "int at(int,int) IndexOutOfBoundsException",
        "int set(int,int,int) IndexOutOfBoundsException IllegalStateException",
        "int faults()",
        "int faultsOf(int) IndexOutOfBoundsException",
        "int improve()",
        "int exchange(int,int) IndexOutOfBoundsException IllegalArgumentException",
        "int day(int,boolean) IndexOutOfBoundsException",
        "int times(int) IndexOutOfBoundsException",
        "long buy(int,int) IndexOutOfBoundsException IllegalArgumentException",
        "double meanPrice()",
        "long digest()",
    };

    public static void main(String[] args) {
        TreeSet<String> open = new TreeSet<>();
        TreeSet<String> hidden = new TreeSet<>();
        for (Method method : MenuScript.class.getDeclaredMethods()) {
            if (Modifier.isPrivate(method.getModifiers())) {
                hidden.add(method.getName());
            } else {
                open.add(signature(method));
            }
        }
        Check.sameText("the calls", open.toString(), new TreeSet<>(Arrays.asList(FACE)).toString());
        for (String call : FACE) {
            String name = call.substring(call.indexOf(' ') + 1, call.indexOf('('));
            Check.sameLong("private methods with the name " + name, hidden.contains(name) ? 1 : 0, 0);
        }
        for (Field field : MenuScript.class.getDeclaredFields()) {
            Check.sameLong(field.getName() + " is private", Modifier.isPrivate(field.getModifiers()) ? 1 : 0, 1);
        }
        Constructor<?>[] constructors = MenuScript.class.getDeclaredConstructors();
        Check.sameLong("the constructors", constructors.length, 1);
        Check.sameLong("the constructor's parameters", constructors[0].getParameterCount(), 0);
        int modifiers = MenuScript.class.getModifiers();
        Check.sameLong("public and final", Modifier.isPublic(modifiers) && Modifier.isFinal(modifiers) ? 1 : 0, 1);
        Check.end("FaceTest");
    }

    private static String signature(Method method) {
        StringBuilder text = new StringBuilder(method.getReturnType() + " " + method.getName() + "(");
        for (Class<?> type : method.getParameterTypes()) {
            text.append(text.charAt(text.length() - 1) == '(' ? "" : ",").append(type);
        }
        text.append(')');
        for (Class<?> thrown : method.getExceptionTypes()) {
            text.append(' ').append(thrown.getSimpleName());
        }
        return text.toString();
    }
}
