import java.lang.reflect.InvocationTargetException;
import java.lang.reflect.Method;
import java.util.HashMap;
import java.util.Map;
import java.util.TreeMap;

/** Long runs of calls: after each of them, all that the deck and the plain model answer is compared. */
public final class ModelTest {
    private static final int RUNS = 45;
    private static final int CALLS = 512;
    private static final int[] ODD = {-1, Integer.MIN_VALUE, Integer.MAX_VALUE, 4, 6, 8, 25, 49, 60, 256};
    private static final String[] ASKED = {
        "top", "drill", "hour", "onDuty", "isTired", "openLines", "openByLog", "closedShare", "meanAge", "isSound"};
    private static final String[] ASKED_BY_NUMBER = {
        "state", "alarms", "done", "reason", "barredBy", "isPermitOpen", "restLeft"};
    private static final String[] ASKED_BY_LINE = {"openAt", "kindOf", "passed"};

    private final Check check = new Check("model");
    private final Map<String, Method> methods = new HashMap<>();
    private final Map<String, Integer> outcomes = new TreeMap<>();
    private HandoverDeck deck;
    private DeckModel model;
    private long seed;
    /** How fast lines are used up: runs differ, so that some see many hand-overs, and others the limits. */
    private int haste;
    private String place;

    public static void main(String[] args) throws ReflectiveOperationException {
        ModelTest test = new ModelTest();
        test.findMethods(HandoverDeck.class);
        test.findMethods(DeckModel.class);
        for (int run = 0; run < RUNS; run++) {
            test.compareRun(run);
        }
        test.checkReach();
        test.check.end();
    }

    private void findMethods(Class<?> owner) {
        for (Method method : owner.getDeclaredMethods()) {
            methods.put(owner.getName() + "." + method.getName(), method);
        }
    }

    private void compareRun(int run) throws ReflectiveOperationException {
        deck = new HandoverDeck();
        model = new DeckModel();
        seed = 7919L * run + 17;
        haste = run % 3;
        for (int call = 0; call < CALLS; call++) {
            place = "run " + run + ", call " + call + ", ";
            compareOne();
            check.same(place + "all answers then", viewOf(model), viewOf(deck));
        }
    }

    /** Runs that never reach what a call does, or where it throws, would compare nothing of worth. */
    private void checkReach() {
        String[] reached = {
            "addProcedure", "addProcedure throws.IllegalStateException",
            "addStep", "addStep throws.IllegalStateException", "addStep throws.NoSuchElementException",
            "raise", "raise throws.IllegalStateException", "clear", "clear throws.NoSuchElementException",
            "shelve", "shelve throws.IllegalStateException", "shelve throws.IllegalArgumentException",
            "step", "step throws.IllegalStateException", "undo", "undo throws.IllegalStateException",
            "undo throws.UnsupportedOperationException", "reset", "reset throws.IllegalStateException",
            "openPermit", "openPermit throws.IllegalStateException", "openPermit throws.UnsupportedOperationException",
            "closePermit", "closePermit throws.IllegalStateException",
            "note", "note throws.IllegalStateException", "close", "close throws.UnsupportedOperationException",
            "begin", "begin throws.IllegalStateException",
            "handOver", "handOver throws.IllegalStateException", "handOver throws.UnsupportedOperationException",
            "acknowledge", "acknowledge throws.IllegalStateException",
            "take", "take throws.IllegalStateException", "take throws.UnsupportedOperationException",
            "cancel", "cancel throws.IllegalStateException", "pass", "pass throws.IllegalArgumentException"};
        for (String outcome : reached) {
            check.isTrue("reached often: " + outcome, outcomes.getOrDefault(outcome, 0) >= 5);
        }
    }

    private String ask(Object target, String name, int... numbers) throws ReflectiveOperationException {
        Object[] arguments = new Object[numbers.length];
        for (int i = 0; i < numbers.length; i++) {
            arguments[i] = numbers[i];
        }
        try {
            return String.valueOf(methods.get(target.getClass().getName() + "." + name).invoke(target, arguments));
        } catch (InvocationTargetException e) {
            return "throws." + e.getCause().getClass().getSimpleName();
        }
    }

    private void compare(String name, int... numbers) throws ReflectiveOperationException {
        String due = ask(model, name, numbers);
        check.same(place + name, due, ask(deck, name, numbers));
        outcomes.merge(due.startsWith("throws") ? name + " " + due : name, 1, Integer::sum);
    }

    private String viewOf(Object target) throws ReflectiveOperationException {
        StringBuilder view = new StringBuilder();
        for (String name : ASKED) {
            view.append(name).append(' ').append(ask(target, name)).append(", ");
        }
        for (int number = -1; number <= 8; number++) {
            for (String name : ASKED_BY_NUMBER) {
                view.append(name).append(number).append(' ').append(ask(target, name, number)).append(", ");
            }
            for (int kind = -1; kind <= 4; kind++) {
                view.append(ask(target, "isShelved", number, kind)).append(", ");
            }
        }
        for (int line = -1; line <= 60; line++) {
            for (String name : ASKED_BY_LINE) {
                view.append(name).append(line).append(' ').append(ask(target, name, line)).append(", ");
            }
        }
        return view.toString();
    }

    /** A plain linear congruence: the same numbers on every machine and every day. */
    private int below(int bound) {
        seed = seed * 6364136223846793005L + 1442695040888963407L;
        return (int) ((seed >>> 33) % bound);
    }

    private int mostlyBelow(int bound) {
        return below(40) == 0 ? ODD[below(ODD.length)] : below(bound);
    }

    private int mostlyFrom(int least, int most) {
        if (below(30) == 0) {
            return ODD[below(ODD.length)];
        }
        if (below(20) == 0) {
            return below(2) == 0 ? least - 1 : most + 1;
        }
        return least + below(most - least + 1);
    }

    private void compareOne() throws ReflectiveOperationException {
        int pick = below(100);
        if (pick < 30) {
            compareProcedureCall(pick);
        } else if (pick < 55) {
            compareCrewCall(pick);
        } else if (pick < 70) {
            comparePermitCall(pick);
        } else if (haste == 2 || below(haste == 1 ? 3 : 10) == 0) {
            compareLineCall(pick);
        } else {
            acknowledgeOpen();
        }
    }

    private void compareProcedureCall(int pick) throws ReflectiveOperationException {
        int procedure = mostlyBelow(1 + below(6));
        if (pick < 2) {
            compare("addProcedure");
        } else if (pick < 9) {
            compare("addStep", procedure, mostlyBelow(2 + below(7)), mostlyBelow(1 + below(4)),
                    mostlyBelow(2 + below(7)), mostlyBelow(4));
        } else if (pick < 20) {
            compare("step", procedure);
        } else if (pick < 26) {
            compare("undo", procedure);
        } else if (pick < 28) {
            compare("reset", procedure);
        } else {
            for (int i = 0; i < 8; i++) {
                compare("step", procedure);
            }
        }
    }

    private void compareCrewCall(int pick) throws ReflectiveOperationException {
        int crew = mostlyBelow(4);
        if (pick < 33) {
            compare("begin", crew);
        } else if (pick < 38) {
            compare("handOver", crew);
        } else if (pick < 43) {
            compare("take");
        } else if (pick < 45) {
            compare("cancel");
        } else if (pick < 49) {
            compare("pass", below(4) == 0 ? mostlyFrom(1, 48) : mostlyFrom(1, 4));
        } else {
            acknowledgeOpen();
        }
    }

    private void acknowledgeOpen() throws ReflectiveOperationException {
        if (below(8) == 0) {
            compare("acknowledge", mostlyBelow(60));
            return;
        }
        int open = model.openLines();
        int first = open == 0 ? 0 : below(open);
        for (int i = 0; i < open; i++) {
            compare("acknowledge", model.openAt((first + i) % open));
        }
    }

    private void comparePermitCall(int pick) throws ReflectiveOperationException {
        if (pick < 62 && below(3) == 0) {
            compare("openPermit", below(3) == 0 ? mostlyFrom(1, 255) : 1 << below(8) | 1 << below(8));
        } else {
            compare("closePermit", mostlyBelow(8));
        }
    }

    private void compareLineCall(int pick) throws ReflectiveOperationException {
        int unit = mostlyBelow(2 + below(7));
        int kind = mostlyBelow(1 + below(4));
        if (pick < 78) {
            compare("raise", unit, kind, mostlyFrom(1, 5));
        } else if (pick < 86) {
            compare("shelve", unit, kind, mostlyFrom(1, 24));
        } else if (pick < 90) {
            compare("clear", unit, kind);
        } else if (pick < 96) {
            compare("note");
        } else {
            compare("close", mostlyBelow(60));
        }
    }
}
