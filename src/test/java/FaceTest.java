import java.lang.reflect.Constructor;
import java.lang.reflect.Executable;
import java.lang.reflect.Method;
import java.lang.reflect.Modifier;
import java.util.Arrays;
import java.util.Collections;
import java.util.List;
import java.util.TreeSet;

/** The public face is just the document's, with its types and exceptions. */
public final class FaceTest {
    private static final String[] FACE = {
        "int annul(int) throws IndexOutOfBoundsException, IllegalStateException",
        "int bear(int, boolean) throws IndexOutOfBoundsException, IllegalStateException",
        "int best(int) throws IndexOutOfBoundsException",
        "int come(boolean, int) throws IllegalArgumentException, IllegalStateException",
        "int count(int) throws IndexOutOfBoundsException",
        "int die(int) throws IndexOutOfBoundsException, IllegalStateException",
        "int foresee(int, int) throws IllegalArgumentException, IndexOutOfBoundsException",
        "int found(int, int, int) throws IllegalArgumentException, IndexOutOfBoundsException, IllegalStateException",
        "int land(int, int) throws IndexOutOfBoundsException",
        "int marry(int, int, int) throws IndexOutOfBoundsException, IllegalStateException",
        "int pass(int) throws IllegalArgumentException",
        "int person(int, int) throws IndexOutOfBoundsException",
        "int related(int, int) throws IndexOutOfBoundsException",
        "int ruled(int, int) throws IndexOutOfBoundsException",
        "int rules(int) throws IndexOutOfBoundsException",
        "int setLaw(int, int) throws IndexOutOfBoundsException, IllegalArgumentException",
        "double mean()",
        "long digest()"};

    public static void main(String[] args) {
        Check.same("modifiers of the class", KingTies.class.getModifiers(), Modifier.PUBLIC | Modifier.FINAL);
        Check.same("fields that are not private", Arrays.stream(KingTies.class.getDeclaredFields())
            .filter(f -> !Modifier.isPrivate(f.getModifiers())).count(), 0);
        Check.same("static fields that are not final", Arrays.stream(KingTies.class.getDeclaredFields())
            .filter(f -> Modifier.isStatic(f.getModifiers()) && !Modifier.isFinal(f.getModifiers())).count(), 0);
        Constructor<?>[] constructors = KingTies.class.getDeclaredConstructors();
        Check.same("constructors", constructors.length, 1);
        Check.same("the constructor", told("new", constructors[0]), "new()");
        Check.same("its modifiers", constructors[0].getModifiers(), Modifier.PUBLIC);
        methodsAreTheFace();
        Check.end();
    }

    private static void methodsAreTheFace() {
        List<String> due = Arrays.asList(FACE);
        TreeSet<String> there = new TreeSet<>();
        TreeSet<String> hidden = new TreeSet<>();
        for (Method method : KingTies.class.getDeclaredMethods()) {
            if (Modifier.isPrivate(method.getModifiers())) {
                hidden.add(method.getName());
            } else {
                there.add(told(method.getReturnType().getSimpleName() + " " + method.getName(), method));
                Check.same("modifiers of " + method.getName(), method.getModifiers(), Modifier.PUBLIC);
            }
        }
        Check.same("the methods", there.toString(), new TreeSet<>(due).toString());
        for (String face : due) {
            String name = face.substring(face.indexOf(' ') + 1, face.indexOf('('));
            Check.same("private methods with the name " + name, Collections.frequency(hidden, name), 0);
        }
    }

    private static String told(String name, Executable executable) {
        String types = names(executable.getParameterTypes());
        String thrown = names(executable.getExceptionTypes());
        return name + "(" + types + ")" + (thrown.isEmpty() ? "" : " throws " + thrown);
    }

    private static String names(Class<?>[] types) {
        StringBuilder names = new StringBuilder();
        for (Class<?> type : types) {
            names.append(names.length() == 0 ? "" : ", ").append(type.getSimpleName());
        }
        return names.toString();
    }
}
