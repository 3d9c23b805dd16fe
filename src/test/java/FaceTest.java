import java.lang.reflect.Constructor;
import java.lang.reflect.Executable;
import java.lang.reflect.Field;
import java.lang.reflect.Method;
import java.lang.reflect.Modifier;
import java.util.TreeSet;

/** The public face: every constant, constructor and method of the document, and no other. */
public final class FaceTest {
    private static final String[] FACE = {
        "public static final int NONE",
        "public (int, int)",
        "public boolean put(int, long)",
        "public void scrap()",
        "public int store(int) throws IllegalArgumentException IllegalStateException",
        "public int drop(int) throws NoSuchElementException",
        "public int get(int) throws NoSuchElementException IllegalStateException",
        "public int at(int) throws IndexOutOfBoundsException",
        "public int fail(int) throws IllegalArgumentException IllegalStateException",
        "public int renew(int) throws IllegalArgumentException IllegalStateException",
        "public int repair()",
        "public int check(int) throws NoSuchElementException",
        "public int harm(int, int, int, int) throws IllegalArgumentException NoSuchElementException",
        "public int stored(int, int, int) throws IllegalArgumentException NoSuchElementException",
        "public int where(int, int, int) throws NoSuchElementException IndexOutOfBoundsException",
        "public int length(int)",
        "public int room(int)",
        "public int product(int, int) throws IllegalArgumentException ArithmeticException",
    };

    public static void main(String[] args) {
        TreeSet<String> due = new TreeSet<>();
        for (String member : FACE) {
            due.add(member);
        }
        Due.same("the face", visibleMembers().toString(), due.toString());
        Due.same("the class", Modifier.toString(StripeVault.class.getModifiers()), "public final");
        Due.same("NONE", StripeVault.NONE, -1);
        privateNamesAreNotPublicOnes();
        Due.end();
    }

    private static TreeSet<String> visibleMembers() {
        TreeSet<String> found = new TreeSet<>();
        for (Field field : StripeVault.class.getDeclaredFields()) {
            if (!Modifier.isPrivate(field.getModifiers())) {
                found.add(Modifier.toString(field.getModifiers()) + " " + field.getType() + " " + field.getName());
            }
        }
        for (Constructor<?> constructor : StripeVault.class.getDeclaredConstructors()) {
            found.add(Modifier.toString(constructor.getModifiers()) + " " + parameters(constructor));
        }
        for (Method method : StripeVault.class.getDeclaredMethods()) {
            if (!Modifier.isPrivate(method.getModifiers())) {
                found.add(Modifier.toString(method.getModifiers()) + " " + method.getReturnType() + " "
                        + method.getName() + parameters(method));
            }
        }
        return found;
    }

    private static String parameters(Executable executable) {
        StringBuilder text = new StringBuilder("(");
        for (Class<?> type : executable.getParameterTypes()) {
            text.append(text.length() == 1 ? "" : ", ").append(type);
        }
        text.append(")");
        String before = " throws ";
        for (Class<?> type : executable.getExceptionTypes()) {
            text.append(before).append(type.getSimpleName());
            before = " ";
        }
        return text.toString();
    }

    private static void privateNamesAreNotPublicOnes() {
        TreeSet<String> names = new TreeSet<>();
        for (Method method : StripeVault.class.getDeclaredMethods()) {
            Due.same("method " + method.getName() + " stands once", names.add(method.getName()), true);
        }
    }
}
