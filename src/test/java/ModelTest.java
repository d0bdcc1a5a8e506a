import java.util.ArrayList;
import java.util.List;

/** Long runs of calls: after each of them, all that the deck and the plain model answer is compared. */
public final class ModelTest {
    private static final int RUNS = 60;
    private static final int CALLS = 512;
    private static final int[] ODD = {-1, Integer.MIN_VALUE, Integer.MAX_VALUE, 4, 6, 8, 25, 49, 60, 256};

    private final Check check;
    private HandoverDeck deck;
    private DeckModel model;
    private long seed;
    /** How fast lines are used up: runs differ, so that some see many hand-overs, and others the limits. */
    private int haste;

    private ModelTest(Check check) {
        this.check = check;
    }

    public static void main(String[] args) {
        Check check = new Check("model");
        ModelTest test = new ModelTest(check);
        for (int run = 0; run < RUNS; run++) {
            test.compareRun(run);
        }
        check.end();
    }

    private void compareRun(int run) {
        deck = new HandoverDeck();
        model = new DeckModel();
        seed = 7919L * run + 17;
        haste = run % 3;
        for (int call = 0; call < CALLS; call++) {
            String name = "run " + run + ", call " + call;
            compareCall(name);
            check.same(name + ", all answers then", viewOfModel(), viewOfDeck());
        }
    }

    /** A plain linear congruence: the same numbers on every machine and every day. */
    private int below(int bound) {
        seed = seed * 6364136223846793005L + 1442695040888963407L;
        return (int) ((seed >>> 33) % bound);
    }

    private int mostly(int bound) {
        return below(40) == 0 ? ODD[below(ODD.length)] : below(bound);
    }

    private int mostlyFrom(int least, int most) {
        return below(30) == 0 ? ODD[below(ODD.length)] : below(10) == 0 ? least - 1 + below(2) * (most - least + 2)
                : least + below(most - least + 1);
    }

    private void same(String name, Check.Call due, Check.Call got) {
        check.same(name, Check.answerOf(due), Check.answerOf(got));
    }

    private void compareCall(String name) {
        int pick = below(100);
        if (pick < 30) {
            compareProcedureCall(name, pick);
        } else if (pick < 55) {
            compareCrewCall(name, pick);
        } else if (pick < 70) {
            comparePermitCall(name, pick);
        } else if (haste == 2 || below(haste == 1 ? 3 : 10) == 0) {
            compareLineCall(name, pick);
        } else {
            acknowledgeNext(name);
        }
    }

    private void compareProcedureCall(String name, int pick) {
        int p = mostly(3 + below(4));
        if (pick < 2) {
            same(name + " addProcedure", () -> model.addProcedure(), () -> deck.addProcedure());
        } else if (pick < 7) {
            int needed = mostly(2 + below(7));
            int neededState = mostly(1 + below(4));
            int unit = mostly(2 + below(7));
            int newState = mostly(4);
            same(name + " addStep", () -> model.addStep(p, needed, neededState, unit, newState),
                    () -> deck.addStep(p, needed, neededState, unit, newState));
        } else if (pick < 20) {
            same(name + " step", () -> model.step(p), () -> deck.step(p));
        } else if (pick < 26) {
            same(name + " undo", () -> model.undo(p), () -> deck.undo(p));
        } else if (pick < 28) {
            same(name + " reset", () -> model.reset(p), () -> deck.reset(p));
        } else {
            compareEveryStep(name, p);
        }
    }

    private void compareEveryStep(String name, int p) {
        for (int i = 0; i < 8; i++) {
            same(name + " step in a row", () -> model.step(p), () -> deck.step(p));
        }
    }

    private void compareCrewCall(String name, int pick) {
        int crew = mostly(4);
        if (pick < 33) {
            same(name + " begin", () -> model.begin(crew), () -> deck.begin(crew));
        } else if (pick < 38) {
            same(name + " handOver", () -> model.handOver(crew), () -> deck.handOver(crew));
        } else if (pick < 43) {
            same(name + " take", () -> model.take(), () -> deck.take());
        } else if (pick < 45) {
            same(name + " cancel", () -> model.cancel(), () -> deck.cancel());
        } else if (pick < 49) {
            int hours = below(4) == 0 ? mostlyFrom(1, 48) : mostlyFrom(1, 4);
            same(name + " pass", () -> model.pass(hours), () -> deck.pass(hours));
        } else {
            acknowledgeNext(name);
        }
    }

    private void acknowledgeNext(String name) {
        if (below(8) == 0) {
            int line = mostly(60);
            same(name + " acknowledge", () -> model.acknowledge(line), () -> deck.acknowledge(line));
            return;
        }
        int open = model.openLines();
        int first = open == 0 ? 0 : below(open);
        for (int i = 0; i < open; i++) {
            int line = model.openAt((first + i) % open);
            same(name + " acknowledge", () -> model.acknowledge(line), () -> deck.acknowledge(line));
        }
    }

    private void comparePermitCall(String name, int pick) {
        if (pick < 62 && below(3) == 0) {
            int units = below(3) == 0 ? mostlyFrom(1, 255) : 1 << below(8) | 1 << below(8);
            same(name + " openPermit", () -> model.openPermit(units), () -> deck.openPermit(units));
        } else {
            int permit = mostly(8);
            same(name + " closePermit", () -> model.closePermit(permit), () -> deck.closePermit(permit));
        }
    }

    private void compareLineCall(String name, int pick) {
        int unit = mostly(8);
        int kind = mostly(4);
        if (pick < 78) {
            int priority = mostlyFrom(1, 5);
            same(name + " raise", () -> model.raise(unit, kind, priority), () -> deck.raise(unit, kind, priority));
        } else if (pick < 86) {
            int hours = mostlyFrom(1, 24);
            same(name + " shelve", () -> model.shelve(unit, kind, hours), () -> deck.shelve(unit, kind, hours));
        } else if (pick < 91) {
            same(name + " clear", () -> model.clear(unit, kind), () -> deck.clear(unit, kind));
        } else if (pick < 94) {
            same(name + " note", () -> model.note(), () -> deck.note());
        } else {
            int line = mostly(60);
            same(name + " close", () -> model.close(line), () -> deck.close(line));
        }
    }

    private String viewOfModel() {
        DeckModel m = model;
        List<Check.Call> calls = new ArrayList<>(List.of(() -> m.top(), () -> m.drill(), () -> m.hour(),
                () -> m.onDuty(), () -> m.isTired(), () -> m.openLines(), () -> m.openLines(),
                () -> m.closedShare(), () -> m.meanAge(), () -> true));
        for (int i = -1; i <= 8; i++) {
            int n = i;
            calls.addAll(List.of(() -> m.state(n), () -> m.alarms(n), () -> m.done(n), () -> m.reason(n),
                    () -> m.barredBy(n), () -> m.isPermitOpen(n), () -> m.restLeft(n)));
            for (int k = -1; k <= 4; k++) {
                int kind = k;
                calls.add(() -> m.isShelved(n, kind));
            }
        }
        for (int i = -1; i <= 60; i++) {
            int n = i;
            calls.addAll(List.of(() -> m.openAt(n), () -> m.kindOf(n), () -> m.passed(n)));
        }
        return textOf(calls);
    }

    private String viewOfDeck() {
        HandoverDeck d = deck;
        List<Check.Call> calls = new ArrayList<>(List.of(() -> d.top(), () -> d.drill(), () -> d.hour(),
                () -> d.onDuty(), () -> d.isTired(), () -> d.openLines(), () -> d.openByLog(),
                () -> d.closedShare(), () -> d.meanAge(), () -> d.isSound()));
        for (int i = -1; i <= 8; i++) {
            int n = i;
            calls.addAll(List.of(() -> d.state(n), () -> d.alarms(n), () -> d.done(n), () -> d.reason(n),
                    () -> d.barredBy(n), () -> d.isPermitOpen(n), () -> d.restLeft(n)));
            for (int k = -1; k <= 4; k++) {
                int kind = k;
                calls.add(() -> d.isShelved(n, kind));
            }
        }
        for (int i = -1; i <= 60; i++) {
            int n = i;
            calls.addAll(List.of(() -> d.openAt(n), () -> d.kindOf(n), () -> d.passed(n)));
        }
        return textOf(calls);
    }

    private static String textOf(List<Check.Call> calls) {
        StringBuilder text = new StringBuilder();
        for (Check.Call call : calls) {
            text.append(Check.answerOf(call)).append(' ');
        }
        return text.toString();
    }
}
