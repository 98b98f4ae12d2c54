import java.lang.reflect.Constructor;
import java.lang.reflect.Field;
import java.lang.reflect.Method;
import java.lang.reflect.Modifier;
import java.util.HashSet;
import java.util.Set;
import java.util.TreeSet;

/** The public face is the document's and nothing more. */
public final class FaceTest {
    private static final String[] FACE = {
        "boolean fits(int)", "boolean hasBelow(int, int)", "boolean load(int, long)", "int bits(int)",
        "int character(int)", "int compare(int, int)",
        "int divide(int, int, int, int, boolean) throws ArithmeticException", "int gcd(int, int, int)",
        "int part(int, int)", "int power(int, int, int)", "int read(int, int)", "int reckon(int, int, int, int)",
        "int root(int, int) throws IllegalArgumentException", "int shift(int, int, int)", "int sign(int)",
        "int type(int)", "int write(int, int)", "long low(int)", "void clear()",
    };

    private final Check check = new Check();

    public static void main(String[] args) {
        FaceTest test = new FaceTest();
        test.face();
        test.nothingElseIsOpen();
        test.namesAreNotUsedTwice();
        test.check.end("FaceTest");
    }

    private void face() {
        Set<String> found = new TreeSet<>();
        for (Method method : WholeNumbers.class.getDeclaredMethods()) {
            if (Modifier.isPublic(method.getModifiers()) && !Modifier.isStatic(method.getModifiers())) {
                found.add(signature(method));
            }
        }
        check.due("the public methods", found, new TreeSet<>(Set.of(FACE)));
        int made = WholeNumbers.class.getModifiers();
        check.due("the class is public and final", Modifier.isPublic(made) && Modifier.isFinal(made), true);
        Constructor<?>[] constructors = WholeNumbers.class.getDeclaredConstructors();
        check.due("the number of constructors", constructors.length, 1);
        check.due("the constructor's parameters", constructors[0].getParameterCount(), 0);
        check.due("the constructor is public", Modifier.isPublic(constructors[0].getModifiers()), true);
    }

    private static String signature(Method method) {
        String text = method.toString().replace("public ", "").replace("WholeNumbers.", "");
        return text.replace("java.lang.", "").replace(",", ", ");
    }

    private void nothingElseIsOpen() {
        for (Field field : WholeNumbers.class.getDeclaredFields()) {
            check.due(field + " is private", Modifier.isPrivate(field.getModifiers()), true);
        }
        for (Method method : WholeNumbers.class.getDeclaredMethods()) {
            int made = method.getModifiers();
            boolean inFace = Set.of(FACE).contains(signature(method));
            check.due(method + " is private or of the face", Modifier.isPrivate(made) || inFace, true);
        }
        for (Class<?> inside : WholeNumbers.class.getDeclaredClasses()) {
            check.due(inside + " is static", Modifier.isStatic(inside.getModifiers()), true);
        }
    }

    private void namesAreNotUsedTwice() {
        Set<String> open = new HashSet<>();
        Set<String> hidden = new HashSet<>();
        for (Method method : WholeNumbers.class.getDeclaredMethods()) {
            (Modifier.isPublic(method.getModifiers()) ? open : hidden).add(method.getName());
        }
        for (Class<?> inside : WholeNumbers.class.getDeclaredClasses()) {
            for (Method method : inside.getDeclaredMethods()) {
                hidden.add(method.getName());
            }
        }
        hidden.retainAll(open);
        check.due("hidden methods with a name of the face", hidden, Set.of());
    }
}
