import java.lang.reflect.InvocationTargetException;
import java.lang.reflect.Method;
import java.lang.reflect.Modifier;
import java.util.Arrays;
import java.util.Comparator;
import java.util.HashMap;
import java.util.HashSet;
import java.util.List;
import java.util.Map;
import java.util.Set;

/**
 * What the tests share whose cases are methods of their own. The name of such a method begins with a title in small
 * letters, that of a promise ("promise3...") or of a part of the document's terms ("alarms..."); all of them are run,
 * each even if another fails.
 */
abstract class Edges {
    interface Call {
        Object on(HandoverDeck deck);
    }

    interface NumberedCall {
        Object on(HandoverDeck deck, int number);
    }

    static final Class<IndexOutOfBoundsException> INDEX = IndexOutOfBoundsException.class;
    static final Class<IllegalArgumentException> ARGUMENT = IllegalArgumentException.class;
    static final Class<IllegalStateException> STATE = IllegalStateException.class;
    static final Class<java.util.NoSuchElementException> ELEMENT = java.util.NoSuchElementException.class;
    static final Class<UnsupportedOperationException> UNSUPPORTED = UnsupportedOperationException.class;
    static final Class<ArithmeticException> ARITHMETIC = ArithmeticException.class;

    /** Far ones: the least and the greatest int, and those that come back to a small one if bits of theirs are lost. */
    private static final int[] FAR = {
        Integer.MIN_VALUE, Integer.MAX_VALUE, 1 << 30, 1 << 29, 65536, 256, -256, Integer.MIN_VALUE + 1};

    private final Check check;
    private final Map<Decks.Maker, String[]> untouched = new HashMap<>();
    private String test = "";

    Edges(String title) {
        check = new Check(title);
    }

    /** Runs the tests of the promises from one to another, of which each has at least one. */
    final void runAll(int from, int to) {
        String[] titles = new String[to - from + 1];
        for (int promise = from; promise <= to; promise++) {
            titles[promise - from] = "promise" + promise;
        }
        runAll(titles);
    }

    /** Runs all tests, each of which has one of these titles; each title has at least one. */
    final void runAll(String... titles) {
        Method[] methods = getClass().getDeclaredMethods();
        Arrays.sort(methods, Comparator.comparing(Method::getName));
        Set<String> found = new HashSet<>();
        for (Method method : methods) {
            if (isTest(method)) {
                test = method.getName();
                found.add(test.replaceAll("[A-Z].*", ""));
                runOne(method);
            }
        }
        test = "titles of the tests";
        same("all of them", new HashSet<>(List.of(titles)), found);
        check.end();
    }

    /** What is private or static helps the tests. */
    private static boolean isTest(Method method) {
        return !Modifier.isPrivate(method.getModifiers()) && !Modifier.isStatic(method.getModifiers());
    }

    private void runOne(Method method) {
        try {
            method.setAccessible(true);
            method.invoke(this);
        } catch (InvocationTargetException e) {
            check.same(test + " ends", "no exception", e.getCause());
        } catch (IllegalAccessException e) {
            check.same(test + " can be called", "no exception", e);
        }
    }

    final void same(String what, Object due, Object got) {
        check.same(test + ", " + what, due, got);
    }

    final void isTrue(String what, boolean got) {
        same(what, true, got);
    }

    final void isFalse(String what, boolean got) {
        same(what, false, got);
    }

    /** The call is refused, and has changed nothing that any other call shows. */
    final void refused(String what, Class<? extends RuntimeException> due, Decks.Maker maker, Call call) {
        String[] shown = shownOf(maker);
        for (int look = 0; look < Looks.COUNT; look++) {
            HandoverDeck deck = maker.make();
            check.fails(test + ", " + what, due, () -> call.on(deck));
            check.same(test + ", " + what + ", what it changed", "", difference(shown[look], Looks.at(deck, look)));
        }
    }

    /** The call, whether it answers or throws, has changed nothing that any other call shows. */
    final void unchanged(String what, Decks.Maker maker, Call call) {
        String[] shown = shownOf(maker);
        for (int look = 0; look < Looks.COUNT; look++) {
            HandoverDeck deck = maker.make();
            Check.answerOf(() -> call.on(deck));
            check.same(test + ", " + what + ", what it changed", "", difference(shown[look], Looks.at(deck, look)));
        }
    }

    /** The call throws this; what it leaves behind is looked at elsewhere. */
    final void fails(String what, Class<? extends RuntimeException> due, Check.Call call) {
        check.fails(test + ", " + what, due, call);
    }

    /** What the looks show of such a deck that no call has touched since. */
    private String[] shownOf(Decks.Maker maker) {
        return untouched.computeIfAbsent(maker, Edges::allLooks);
    }

    /** Only the first answer that differs: a look is long. */
    private static String difference(String due, String got) {
        String[] dueAnswers = due.split(", ");
        String[] gotAnswers = got.split(", ");
        for (int i = 0; i < dueAnswers.length && i < gotAnswers.length; i++) {
            if (!dueAnswers[i].equals(gotAnswers[i])) {
                return gotAnswers[i] + " instead of " + dueAnswers[i];
            }
        }
        return dueAnswers.length == gotAnswers.length ? "" : "the number of answers";
    }

    private static String[] allLooks(Decks.Maker maker) {
        String[] shown = new String[Looks.COUNT];
        for (int look = 0; look < Looks.COUNT; look++) {
            shown[look] = Looks.at(maker.make(), look);
        }
        return shown;
    }

    /** The least number and the greatest are allowed, those outside are refused. */
    final void range(int least, int greatest, Class<? extends RuntimeException> due, Decks.Maker maker,
            NumberedCall call) {
        allowed(least, maker, call);
        allowed(greatest, maker, call);
        outside(least, greatest, due, maker, call);
    }

    /** Numbers outside are refused: those next to the least and to the greatest, and far ones. */
    final void outside(int least, int greatest, Class<? extends RuntimeException> due, Decks.Maker maker,
            NumberedCall call) {
        refused("number " + (least - 1), due, maker, deck -> call.on(deck, least - 1));
        refused("number " + (greatest + 1), due, maker, deck -> call.on(deck, greatest + 1));
        for (int number : FAR) {
            refused("number " + number, due, maker, deck -> call.on(deck, number));
        }
    }

    private void allowed(int number, Decks.Maker maker, NumberedCall call) {
        String got = Check.answerOf(() -> call.on(maker.make(), number));
        isFalse("number " + number + " is allowed, not " + got, got.startsWith("throws."));
    }
}
