import java.lang.reflect.InvocationTargetException;
import java.lang.reflect.Method;
import java.util.HashMap;
import java.util.Map;
import java.util.TreeMap;

/**
 * Runs of calls, each compared with the plain model: long ones, in which questions stand between, and shorter ones,
 * at whose end all is asked. No deck is called more than 512 times, since what it answers then is free.
 */
public final class ModelTest {
    private static final int LONG_RUNS = 300;
    private static final int SHORT_RUNS = 1200;
    private static final int CALLS = 512;
    private static final int CALLS_OF_A_VIEW = 326;
    private static final int[] ODD = {-1, Integer.MIN_VALUE, Integer.MAX_VALUE, 4, 6, 8, 25, 49, 60, 256};
    private static final String[] ASKED = {
        "top", "drill", "hour", "onDuty", "isTired", "openLines", "openByLog", "closedShare", "meanAge", "isSound"};
    private static final String[] ASKED_BY_NUMBER = {
        "state", "alarms", "done", "reason", "barredBy", "isPermitOpen", "restLeft"};
    private static final String[] ASKED_BY_LINE = {"openAt", "kindOf", "passed"};

    private final Check check = new Check("model");
    private final Map<String, Method> methods = new HashMap<>();
    private final Map<String, Integer> outcomes = new TreeMap<>();
    private HandoverDeck deck;
    private DeckModel model;
    private long seed;
    /** How fast lines are used up: runs differ, so that some see many hand-overs, and others the limits. */
    private int haste;
    private String place;
    /** How many calls of the deck are left in this run. */
    private int left;

    public static void main(String[] args) throws ReflectiveOperationException {
        ModelTest test = new ModelTest();
        test.findMethods(HandoverDeck.class);
        test.findMethods(DeckModel.class);
        for (int run = 0; run < LONG_RUNS; run++) {
            test.compareLongRun(run);
        }
        for (int run = 0; run < SHORT_RUNS; run++) {
            test.compareShortRun(run);
        }
        test.checkReach();
        test.check.end();
    }

    private void findMethods(Class<?> owner) {
        for (Method method : owner.getDeclaredMethods()) {
            methods.put(owner.getName() + "." + method.getName(), method);
        }
    }

    private void start(String title, int run, int calls) {
        deck = new HandoverDeck();
        model = new DeckModel();
        seed = 7919L * run + 17;
        haste = run % 3;
        left = calls;
        place = title + " " + run + ", ";
    }

    private void compareLongRun(int run) throws ReflectiveOperationException {
        start("long run", run, CALLS);
        addProcedures(below(7));
        addNotes(run % 4 == 3 ? 30 + below(28) : 0);
        while (left > 0) {
            compareOne();
            compareQuestion();
        }
    }

    private void compareShortRun(int run) throws ReflectiveOperationException {
        start("short run", run, 1 + run % (CALLS - CALLS_OF_A_VIEW));
        addProcedures(below(4));
        while (left > 0) {
            compareOne();
        }
        left = CALLS_OF_A_VIEW;
        check.same(place + "all answers at its end", viewOf(model), viewOf(deck));
        check.same(place + "calls of a view", 0, left);
    }

    /** Else most runs would be over before a procedure has many steps. */
    private void addProcedures(int count) throws ReflectiveOperationException {
        for (int procedure = 0; procedure < count; procedure++) {
            compare("addProcedure");
            int steps = below(9);
            for (int step = 0; step < steps; step++) {
                addStep(procedure);
            }
        }
    }

    private void addNotes(int count) throws ReflectiveOperationException {
        for (int note = 0; note < count; note++) {
            compare("note");
            if (below(3) > 0) {
                compare("close", note);
            }
        }
    }

    private void addStep(int procedure) throws ReflectiveOperationException {
        compare("addStep", procedure, mostlyBelow(2 + below(7)), mostlyBelow(1 + below(4)),
                mostlyBelow(2 + below(7)), mostlyBelow(4));
    }

    private void compareQuestion() throws ReflectiveOperationException {
        switch (below(8)) {
            case 0 -> compare(ASKED[below(ASKED.length)]);
            case 1 -> compare(ASKED_BY_NUMBER[below(ASKED_BY_NUMBER.length)], mostlyBelow(8));
            case 2 -> compare(ASKED_BY_LINE[below(ASKED_BY_LINE.length)], mostlyBelow(60));
            case 3 -> compare("isShelved", mostlyBelow(8), mostlyBelow(4));
            default -> { }
        }
    }

    /** Runs that never reach what a call does, or where it throws, would compare nothing of worth. */
    private void checkReach() {
        String[] reached = {
            "addProcedure", "addProcedure throws.IllegalStateException",
            "addStep", "addStep throws.IllegalStateException", "addStep throws.NoSuchElementException",
            "raise", "raise throws.IllegalStateException", "clear", "clear throws.NoSuchElementException",
            "shelve", "shelve throws.IllegalStateException", "shelve throws.IllegalArgumentException",
            "step", "step throws.IllegalStateException", "undo", "undo throws.IllegalStateException",
            "undo throws.UnsupportedOperationException", "reset", "reset throws.IllegalStateException",
            "openPermit", "openPermit throws.IllegalStateException", "openPermit throws.UnsupportedOperationException",
            "closePermit", "closePermit throws.IllegalStateException",
            "note", "note throws.IllegalStateException", "close", "close throws.UnsupportedOperationException",
            "begin", "begin throws.IllegalStateException",
            "handOver", "handOver throws.IllegalStateException", "handOver throws.UnsupportedOperationException",
            "acknowledge", "acknowledge throws.IllegalStateException",
            "take", "take throws.IllegalStateException", "take throws.UnsupportedOperationException",
            "cancel", "cancel throws.IllegalStateException", "pass", "pass throws.IllegalArgumentException"};
        for (String outcome : reached) {
            check.isTrue("reached often: " + outcome, outcomes.getOrDefault(outcome, 0) >= 5);
        }
    }

    private String ask(Object target, String name, int... numbers) throws ReflectiveOperationException {
        if (target == deck) {
            left--;
        }
        Object[] arguments = new Object[numbers.length];
        for (int i = 0; i < numbers.length; i++) {
            arguments[i] = numbers[i];
        }
        try {
            return String.valueOf(methods.get(target.getClass().getName() + "." + name).invoke(target, arguments));
        } catch (InvocationTargetException e) {
            return "throws." + e.getCause().getClass().getSimpleName();
        }
    }

    /** Whether the call is allowed. */
    private boolean compare(String name, int... numbers) throws ReflectiveOperationException {
        if (left <= 0) {
            return false;
        }
        String due = ask(model, name, numbers);
        check.same(place + name, due, ask(deck, name, numbers));
        boolean allowed = !due.startsWith("throws");
        outcomes.merge(allowed ? name : name + " " + due, 1, Integer::sum);
        return allowed;
    }

    private String viewOf(Object target) throws ReflectiveOperationException {
        StringBuilder view = new StringBuilder();
        for (String name : ASKED) {
            view.append(name).append(' ').append(ask(target, name)).append(", ");
        }
        for (int number = -1; number <= 8; number++) {
            for (String name : ASKED_BY_NUMBER) {
                view.append(name).append(number).append(' ').append(ask(target, name, number)).append(", ");
            }
            for (int kind = -1; kind <= 4; kind++) {
                view.append(ask(target, "isShelved", number, kind)).append(", ");
            }
        }
        for (int line = -1; line <= 60; line++) {
            for (String name : ASKED_BY_LINE) {
                view.append(name).append(line).append(' ').append(ask(target, name, line)).append(", ");
            }
        }
        return view.toString();
    }

    /** A plain linear congruence: the same numbers on every machine and every day. */
    private int below(int bound) {
        seed = seed * 6364136223846793005L + 1442695040888963407L;
        return (int) ((seed >>> 33) % bound);
    }

    private int mostlyBelow(int bound) {
        return below(40) == 0 ? ODD[below(ODD.length)] : below(bound);
    }

    private int mostlyFrom(int least, int most) {
        if (below(30) == 0) {
            return ODD[below(ODD.length)];
        }
        if (below(20) == 0) {
            return below(2) == 0 ? least - 1 : most + 1;
        }
        return least + below(most - least + 1);
    }

    private void compareOne() throws ReflectiveOperationException {
        int pick = below(100);
        if (pick < 30) {
            compareProcedureCall(pick);
        } else if (pick < 55) {
            compareCrewCall(pick);
        } else if (pick < 70) {
            comparePermitCall(pick);
        } else if (haste == 2 || below(haste == 1 ? 3 : 10) == 0) {
            compareLineCall(pick);
        } else {
            acknowledgeOpen();
        }
    }

    private void compareProcedureCall(int pick) throws ReflectiveOperationException {
        int procedure = mostlyBelow(1 + below(6));
        if (pick < 2) {
            compare("addProcedure");
        } else if (pick < 9) {
            addStep(procedure);
        } else if (pick < 20) {
            compare("step", procedure);
        } else if (pick < 26) {
            compare("undo", procedure);
        } else if (pick < 28) {
            compare("reset", procedure);
        } else {
            boolean allowed = true;
            for (int i = 0; i < 8 && allowed; i++) {
                allowed = compare("step", procedure);
            }
        }
    }

    private void compareCrewCall(int pick) throws ReflectiveOperationException {
        int crew = mostlyBelow(4);
        if (pick < 33) {
            compare("begin", crew);
        } else if (pick < 38) {
            compare("handOver", crew);
        } else if (pick < 43) {
            compare("take");
        } else if (pick < 45) {
            compare("cancel");
        } else if (pick < 49) {
            compare("pass", below(4) == 0 ? mostlyFrom(1, 48) : mostlyFrom(1, 4));
        } else {
            acknowledgeOpen();
        }
    }

    private void acknowledgeOpen() throws ReflectiveOperationException {
        if (below(8) == 0) {
            compare("acknowledge", mostlyBelow(60));
            return;
        }
        int open = model.openLines();
        int first = open == 0 ? 0 : below(open);
        boolean allowed = true;
        for (int i = 0; i < open && allowed; i++) {
            allowed = compare("acknowledge", model.openAt((first + i) % open));
        }
    }

    private void comparePermitCall(int pick) throws ReflectiveOperationException {
        if (pick < 62) {
            compare("openPermit", below(3) == 0 ? mostlyFrom(1, 255) : 1 << below(8) | 1 << below(8));
        } else {
            compare("closePermit", mostlyBelow(8));
        }
    }

    private void compareLineCall(int pick) throws ReflectiveOperationException {
        int unit = mostlyBelow(2 + below(7));
        int kind = mostlyBelow(1 + below(4));
        if (pick < 78) {
            compare("raise", unit, kind, mostlyFrom(1, 5));
        } else if (pick < 86) {
            compare("shelve", unit, kind, mostlyFrom(1, 24));
        } else if (pick < 90) {
            compare("clear", unit, kind);
        } else if (pick < 96) {
            compare("note");
        } else {
            compare("close", mostlyBelow(60));
        }
    }
}
