import java.lang.reflect.Constructor;
import java.lang.reflect.Method;
import java.lang.reflect.Modifier;
import java.util.ArrayList;
import java.util.Arrays;
import java.util.List;
import java.util.Set;
import java.util.TreeSet;

/** The face of the document: its constructor and its methods, and no other member that is not private. */
public final class FaceTest {
    private static final Check check = new Check("face");
    private static final String[] FACE = {
        "int state(int) throws IndexOutOfBoundsException",
        "int raise(int,int,int) throws IndexOutOfBoundsException,IllegalArgumentException,IllegalStateException",
        "int clear(int,int) throws IndexOutOfBoundsException,NoSuchElementException",
        "int shelve(int,int,int) throws IndexOutOfBoundsException,NoSuchElementException,"
            + "IllegalArgumentException,IllegalStateException",
        "boolean isShelved(int,int) throws IndexOutOfBoundsException",
        "int alarms(int) throws IllegalArgumentException",
        "int top() throws NoSuchElementException",
        "int addProcedure() throws IllegalStateException",
        "int addStep(int,int,int,int,int) throws NoSuchElementException,IndexOutOfBoundsException,"
            + "IllegalArgumentException,IllegalStateException",
        "int done(int) throws NoSuchElementException",
        "char reason(int) throws NoSuchElementException",
        "int barredBy(int) throws NoSuchElementException",
        "int step(int) throws NoSuchElementException,IllegalStateException",
        "int undo(int) throws NoSuchElementException,IllegalStateException,UnsupportedOperationException",
        "int reset(int) throws NoSuchElementException,IllegalStateException",
        "int drill() throws NoSuchElementException",
        "int openPermit(int) throws IllegalArgumentException,IllegalStateException,UnsupportedOperationException",
        "int closePermit(int) throws NoSuchElementException,IllegalStateException",
        "boolean isPermitOpen(int) throws NoSuchElementException",
        "int note() throws IllegalStateException",
        "int close(int) throws NoSuchElementException,UnsupportedOperationException,IllegalStateException",
        "int begin(int) throws IllegalArgumentException,IllegalStateException",
        "int handOver(int) throws IllegalArgumentException,IllegalStateException,UnsupportedOperationException",
        "int acknowledge(int) throws NoSuchElementException,IllegalStateException",
        "int take() throws IllegalStateException,UnsupportedOperationException",
        "int cancel() throws IllegalStateException",
        "int pass(int) throws IllegalArgumentException",
        "int hour()",
        "int onDuty() throws NoSuchElementException",
        "boolean isTired()",
        "int restLeft(int) throws IllegalArgumentException",
        "int openLines()",
        "int openByLog()",
        "int openAt(int) throws IndexOutOfBoundsException",
        "char kindOf(int) throws NoSuchElementException",
        "int passed(int) throws NoSuchElementException",
        "float closedShare() throws ArithmeticException",
        "double meanAge() throws ArithmeticException",
        "boolean isSound()",
    };

    public static void main(String[] args) {
        check.same("methods", new TreeSet<>(Arrays.asList(FACE)), publicMethods());
        check.isTrue("final", Modifier.isFinal(HandoverDeck.class.getModifiers()));
        checkConstructors();
        checkHiddenMembers();
        check.end();
    }

    private static Set<String> publicMethods() {
        Set<String> found = new TreeSet<>();
        for (Method method : HandoverDeck.class.getDeclaredMethods()) {
            if (Modifier.isPublic(method.getModifiers())) {
                found.add(textOf(method));
            }
        }
        return found;
    }

    private static String textOf(Method method) {
        String text = method.getReturnType() + " " + method.getName() + "(" + names(method.getParameterTypes()) + ")";
        Class<?>[] thrown = method.getExceptionTypes();
        return thrown.length == 0 ? text : text + " throws " + names(thrown);
    }

    private static String names(Class<?>[] types) {
        List<String> names = new ArrayList<>();
        for (Class<?> type : types) {
            names.add(type.getSimpleName());
        }
        return String.join(",", names);
    }

    private static void checkConstructors() {
        Constructor<?>[] constructors = HandoverDeck.class.getDeclaredConstructors();
        check.same("one constructor", 1, constructors.length);
        check.same("without parameters", 0, constructors[0].getParameterCount());
        check.isTrue("public constructor", Modifier.isPublic(constructors[0].getModifiers()));
    }

    private static void checkHiddenMembers() {
        Set<String> shown = new TreeSet<>();
        for (Method method : HandoverDeck.class.getDeclaredMethods()) {
            if (Modifier.isPublic(method.getModifiers())) {
                shown.add(method.getName());
            }
        }
        for (Method method : HandoverDeck.class.getDeclaredMethods()) {
            boolean isPublic = Modifier.isPublic(method.getModifiers());
            boolean isPrivate = Modifier.isPrivate(method.getModifiers());
            check.isTrue("public or private: " + method.getName(), isPublic || isPrivate);
            check.isFalse("a public name: " + method.getName(), isPrivate && shown.contains(method.getName()));
        }
        for (var field : HandoverDeck.class.getDeclaredFields()) {
            check.isTrue("private field: " + field.getName(), Modifier.isPrivate(field.getModifiers()));
            boolean isStatic = Modifier.isStatic(field.getModifiers());
            check.isTrue("static and final: " + field.getName(), !isStatic || Modifier.isFinal(field.getModifiers()));
        }
        for (Class<?> inside : HandoverDeck.class.getDeclaredClasses()) {
            check.isTrue("static class: " + inside.getSimpleName(), Modifier.isStatic(inside.getModifiers()));
            for (Method method : inside.getDeclaredMethods()) {
                check.isFalse("a public name inside: " + method.getName(), shown.contains(method.getName()));
            }
        }
    }
}
