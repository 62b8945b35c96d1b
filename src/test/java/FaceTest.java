import java.lang.reflect.Constructor;
import java.lang.reflect.Field;
import java.lang.reflect.Method;
import java.lang.reflect.Modifier;
import java.util.Arrays;
import java.util.Set;
import java.util.TreeSet;

/** The document's face, and rules 1, 5 and 11 of ../shared/LANGUAGE.md as far as reflection shows them. */
public final class FaceTest {
    private static final String[] FACE = {
        "int setTreaty(int, int, int) IllegalArgumentException",
        "int addHolder(int, int) IllegalArgumentException IllegalStateException",
        "int setParts(int, int, int) IllegalArgumentException IndexOutOfBoundsException",
        "int setShares(int, int) IllegalArgumentException IllegalStateException IndexOutOfBoundsException",
        "int giveForm(int) IndexOutOfBoundsException",
        "int pass(int) IllegalArgumentException IllegalStateException",
        "int day()",
        "int shares(int) IndexOutOfBoundsException",
        "boolean isValid(int) IndexOutOfBoundsException",
        "boolean isLarge(int) IndexOutOfBoundsException",
        "int treatyRate(int) IllegalArgumentException IndexOutOfBoundsException",
        "int pay(int) IllegalArgumentException IllegalStateException",
        "int dividends()",
        "int gross(int, int) IndexOutOfBoundsException",
        "int held(int, int) IndexOutOfBoundsException",
        "int due(int, int) IndexOutOfBoundsException",
        "long heldInAll()",
        "long refunded()",
        "int refund(int, int) IllegalStateException IndexOutOfBoundsException",
        "int claim(int, int) IllegalStateException IndexOutOfBoundsException",
    };
    private static final String[] CONSTANTS = {"NONE", "PERSON", "COMPANY", "PARTNERSHIP"};

    public static void main(String[] args) {
        methods();
        constantsAndFields();
        constructors();
        nestedClasses();
        Check.end("FaceTest");
    }

    private static void methods() {
        Set<String> open = new TreeSet<>();
        Set<String> openNames = new TreeSet<>();
        Set<String> hiddenNames = new TreeSet<>();
        for (Method method : DividendDesk.class.getDeclaredMethods()) {
            if (Modifier.isPrivate(method.getModifiers())) {
                hiddenNames.add(method.getName());
            } else {
                Check.isTrue(method.getName() + " is public", Modifier.isPublic(method.getModifiers()));
                Check.isTrue(method.getName() + " is of objects", !Modifier.isStatic(method.getModifiers()));
                open.add(signature(method));
                openNames.add(method.getName());
            }
            Check.isTrue(method.getName() + " takes at most 7", method.getParameterCount() <= 7);
        }
        Check.isTrue("the methods " + open, open.equals(new TreeSet<>(Arrays.asList(FACE))));
        hiddenNames.retainAll(openNames);
        Check.isTrue("no private method bears a public name: " + hiddenNames, hiddenNames.isEmpty());
    }

    private static String signature(Method method) {
        StringBuilder text = new StringBuilder();
        text.append(method.getReturnType()).append(' ').append(method.getName()).append('(');
        for (int i = 0; i < method.getParameterCount(); i++) {
            text.append(i == 0 ? "" : ", ").append(method.getParameterTypes()[i]);
        }
        text.append(')');
        Set<String> thrown = new TreeSet<>();
        for (Class<?> type : method.getExceptionTypes()) {
            thrown.add(type.getSimpleName());
        }
        for (String name : thrown) {
            text.append(' ').append(name);
        }
        return text.toString();
    }

    private static void constantsAndFields() {
        Set<String> open = new TreeSet<>();
        for (Field field : DividendDesk.class.getDeclaredFields()) {
            int modifiers = field.getModifiers();
            if (!Modifier.isPrivate(modifiers)) {
                open.add(field.getName());
                Check.isTrue(field.getName() + " is a public constant int", Modifier.isPublic(modifiers)
                        && Modifier.isStatic(modifiers) && field.getType() == int.class);
            }
            Check.isTrue(field.getName() + " is final if static",
                    !Modifier.isStatic(modifiers) || Modifier.isFinal(modifiers));
        }
        Check.isTrue("the constants " + open, open.equals(new TreeSet<>(Arrays.asList(CONSTANTS))));
    }

    private static void constructors() {
        Constructor<?>[] all = DividendDesk.class.getDeclaredConstructors();
        Check.equal("constructors", all.length, 1);
        Check.isTrue("a public one", Modifier.isPublic(all[0].getModifiers()));
        Check.equal("without arguments", all[0].getParameterCount(), 0);
        Check.isTrue("a final class", Modifier.isFinal(DividendDesk.class.getModifiers()));
        Check.isTrue("a public class", Modifier.isPublic(DividendDesk.class.getModifiers()));
    }

    private static void nestedClasses() {
        Class<?>[] nested = DividendDesk.class.getDeclaredClasses();
        Check.isTrue("at most 12 classes", nested.length < 12);
        for (Class<?> type : nested) {
            int modifiers = type.getModifiers();
            Check.isTrue(type.getName() + " is private or package-visible",
                    !Modifier.isPublic(modifiers) && !Modifier.isProtected(modifiers));
            for (Field field : type.getDeclaredFields()) {
                Check.isTrue(field.getName() + " of " + type.getName() + " is final if static",
                        !Modifier.isStatic(field.getModifiers()) || Modifier.isFinal(field.getModifiers()));
            }
        }
    }
}
