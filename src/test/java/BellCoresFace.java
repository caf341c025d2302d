import java.lang.reflect.Constructor;
import java.lang.reflect.Field;
import java.lang.reflect.Method;
import java.lang.reflect.Modifier;
import java.util.Set;
import java.util.TreeSet;

/** The face of BellCores is the document's, and nothing more. */
public final class BellCoresFace {
    private static final String[] FACE = {
        "int account(int) throws IllegalArgumentException",
        "int append(char) throws IllegalStateException",
        "int bellOf(int, int) throws IndexOutOfBoundsException, IllegalArgumentException",
        "int bronze(int) throws IllegalArgumentException, UnsupportedOperationException",
        "char character(int) throws IndexOutOfBoundsException",
        "int coal(int) throws IllegalArgumentException",
        "int coldIn(int) throws IndexOutOfBoundsException",
        "int errorPosition()",
        "int file(int, int) throws IndexOutOfBoundsException, IllegalArgumentException, UnsupportedOperationException",
        "int first() throws NoSuchElementException",
        "boolean isWell()",
        "int line(int) throws IndexOutOfBoundsException",
        "int longest() throws NoSuchElementException",
        "double meanNote() throws ArithmeticException",
        "int mould(int, int) throws IllegalArgumentException, UnsupportedOperationException",
        "int mouldOf(int, int) throws IndexOutOfBoundsException, IllegalArgumentException",
        "int note(int, boolean) throws IndexOutOfBoundsException",
        "int pass(int) throws IllegalArgumentException",
        "int peal(int, boolean) throws IllegalArgumentException",
        "int pour(int, int) throws IndexOutOfBoundsException, UnsupportedOperationException",
        "int pourable(boolean)",
        "int rack(int) throws IllegalArgumentException, UnsupportedOperationException",
        "int rackLine(int) throws IndexOutOfBoundsException",
        "int rackOf(int, int) throws IndexOutOfBoundsException, IllegalArgumentException",
        "int ranked(int) throws NoSuchElementException",
        "int recast(int) throws IndexOutOfBoundsException, UnsupportedOperationException",
        "int refusal(boolean) throws NoSuchElementException",
        "int restore() throws IllegalStateException",
        "int ring(int) throws IndexOutOfBoundsException, UnsupportedOperationException",
        "int run() throws IllegalArgumentException, UnsupportedOperationException",
        "int save()",
        "int smash(int) throws IndexOutOfBoundsException",
        "float soundShare() throws ArithmeticException",
        "int strike(int) throws IndexOutOfBoundsException, UnsupportedOperationException",
        "int take(int) throws IndexOutOfBoundsException, UnsupportedOperationException",
        "int undo() throws IllegalStateException",
        "int wouldCrack(int, int) throws IndexOutOfBoundsException, IllegalArgumentException",
    };

    private static int wrong = 0;

    private static void due(boolean holds, String what) {
        if (!holds) {
            wrong++;
            System.out.println(what);
        }
    }

    private static String names(Class<?>[] types) {
        StringBuilder names = new StringBuilder();
        for (Class<?> type : types) {
            names.append(names.length() == 0 ? "" : ", ").append(type.getSimpleName());
        }
        return names.toString();
    }

    private static String told(Method method) {
        String told = method.getReturnType().getSimpleName() + " " + method.getName() + "("
            + names(method.getParameterTypes()) + ")";
        String thrown = names(method.getExceptionTypes());
        return thrown.isEmpty() ? told : told + " throws " + thrown;
    }

    private static void checkMembers() {
        Set<String> open = new TreeSet<>();
        Set<String> openNames = new TreeSet<>();
        for (Method method : BellCores.class.getDeclaredMethods()) {
            int modifiers = method.getModifiers();
            if (Modifier.isPublic(modifiers)) {
                open.add(told(method));
                openNames.add(method.getName());
                due(!Modifier.isStatic(modifiers), method + " is static");
            } else if (!method.isSynthetic()) {
                due(Modifier.isPrivate(modifiers), method + " is neither public nor private");
            }
        }
        due(open.equals(new TreeSet<>(Set.of(FACE))), "the public methods are " + open);
        for (Method method : BellCores.class.getDeclaredMethods()) {
            due(Modifier.isPublic(method.getModifiers()) || !openNames.contains(method.getName()),
                method + " bears the name of a public method");
        }
        for (Field field : BellCores.class.getDeclaredFields()) {
            due(Modifier.isPrivate(field.getModifiers()) || field.isSynthetic(), field + " is not private");
            due(!Modifier.isStatic(field.getModifiers()) || Modifier.isFinal(field.getModifiers()),
                field + " is static and not final");
        }
    }

    private static void checkClass() {
        int modifiers = BellCores.class.getModifiers();
        due(Modifier.isPublic(modifiers) && Modifier.isFinal(modifiers), "the class is not public and final");
        due(BellCores.class.getPackageName().isEmpty(), "the class has a package");
        Constructor<?>[] constructors = BellCores.class.getDeclaredConstructors();
        due(constructors.length == 1 && Modifier.isPublic(constructors[0].getModifiers())
            && constructors[0].getParameterCount() == 0, "there is not just the public constructor without parameters");
        due(BellCores.class.getDeclaredClasses().length < 12, "there are more than twelve classes");
    }

    public static void main(String[] args) {
        checkClass();
        checkMembers();
        System.out.println(wrong == 0 ? "the face is as due" : wrong + " things of the face are not as due");
        if (wrong != 0) {
            System.exit(1);
        }
    }
}
