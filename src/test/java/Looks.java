/**
 * What calls show of a deck, as texts. Each look uses less than 340 of the 512 calls of an object, and all but the
 * first change the deck, so that what is held inside for later calls shows too.
 */
final class Looks {
    static final int COUNT = 6;

    private Looks() {
    }

    static String at(HandoverDeck deck, int look) {
        StringBuilder text = new StringBuilder();
        switch (look) {
            case 0 -> askAll(text, deck);
            case 1 -> useLines(text, deck);
            case 2 -> useProcedures(text, deck);
            case 3 -> useAlarms(text, deck);
            case 4 -> usePermits(text, deck);
            default -> useCrews(text, deck);
        }
        return text.toString();
    }

    private static void add(StringBuilder text, String name, Check.Call call) {
        text.append(name).append(' ').append(Check.answerOf(call)).append(", ");
    }

    private static void askAll(StringBuilder text, HandoverDeck deck) {
        askOnce(text, deck);
        askByNumber(text, deck);
        for (int line = 0; line <= 60; line++) {
            int number = line;
            add(text, "openAt" + line, () -> deck.openAt(number));
            add(text, "kindOf" + line, () -> deck.kindOf(number));
            add(text, "passed" + line, () -> deck.passed(number));
        }
    }

    private static void askOnce(StringBuilder text, HandoverDeck deck) {
        add(text, "top", deck::top);
        add(text, "drill", deck::drill);
        add(text, "hour", deck::hour);
        add(text, "onDuty", deck::onDuty);
        add(text, "isTired", deck::isTired);
        add(text, "openLines", deck::openLines);
        add(text, "openByLog", deck::openByLog);
        add(text, "closedShare", deck::closedShare);
        add(text, "meanAge", deck::meanAge);
        add(text, "isSound", deck::isSound);
    }

    private static void askByNumber(StringBuilder text, HandoverDeck deck) {
        for (int i = 0; i < 8; i++) {
            int number = i;
            add(text, "state" + i, () -> deck.state(number));
            add(text, "alarms" + i, () -> deck.alarms(number));
            add(text, "done" + i, () -> deck.done(number));
            add(text, "reason" + i, () -> deck.reason(number));
            add(text, "barredBy" + i, () -> deck.barredBy(number));
            add(text, "isPermitOpen" + i, () -> deck.isPermitOpen(number));
            add(text, "restLeft" + i, () -> deck.restLeft(number));
            for (int k = 0; k < 4; k++) {
                int kind = k;
                add(text, "isShelved" + i + k, () -> deck.isShelved(number, kind));
            }
        }
    }

    private static void useLines(StringBuilder text, HandoverDeck deck) {
        add(text, "take", deck::take);
        acknowledgeAll(text, deck);
        add(text, "cancel", deck::cancel);
        for (int line = 0; line <= 60; line++) {
            int number = line;
            add(text, "close" + line, () -> deck.close(number));
        }
        for (int line = 0; line <= 60; line++) {
            add(text, "note", deck::note);
        }
        add(text, "meanAge", deck::meanAge);
        add(text, "closedShare", deck::closedShare);
    }

    private static void useProcedures(StringBuilder text, HandoverDeck deck) {
        add(text, "cancel", deck::cancel);
        add(text, "begin", () -> deck.begin(0));
        for (int i = 5; i >= 0; i--) {
            int procedure = i;
            for (int step = 0; step < 8; step++) {
                add(text, "undo" + i, () -> deck.undo(procedure));
            }
        }
        for (int unit = 0; unit < 8; unit++) {
            int number = unit;
            add(text, "state" + unit, () -> deck.state(number));
        }
        changeCrew(text, deck);
        for (int i = 0; i < 6; i++) {
            int procedure = i;
            for (int step = 0; step < 8; step++) {
                add(text, "step" + i, () -> deck.step(procedure));
            }
            add(text, "drill", deck::drill);
            add(text, "reset" + i, () -> deck.reset(procedure));
            add(text, "addStep" + i, () -> deck.addStep(procedure, 0, 0, 0, 0));
            add(text, "addProcedure", deck::addProcedure);
        }
    }

    /** Brings a rested crew on duty, if there is one: a tired crew takes no step. */
    private static void changeCrew(StringBuilder text, HandoverDeck deck) {
        for (int i = 0; i < 4; i++) {
            int crew = i;
            add(text, "handOver" + i, () -> deck.handOver(crew));
        }
        acknowledgeAll(text, deck);
        add(text, "take", deck::take);
    }

    private static void acknowledgeAll(StringBuilder text, HandoverDeck deck) {
        for (int line = 0; line <= 60; line++) {
            int number = line;
            add(text, "acknowledge" + line, () -> deck.acknowledge(number));
        }
    }

    private static void useAlarms(StringBuilder text, HandoverDeck deck) {
        for (int hours = 1; hours <= 25; hours++) {
            add(text, "pass", () -> deck.pass(1));
            add(text, "alarms", () -> deck.alarms(1));
            add(text, "top", deck::top);
        }
        for (int i = 0; i < 32; i++) {
            int unit = i / 4;
            int kind = i % 4;
            add(text, "shelve" + i, () -> deck.shelve(unit, kind, 1));
            add(text, "clear" + i, () -> deck.clear(unit, kind));
            add(text, "raise" + i, () -> deck.raise(unit, kind, 3));
        }
    }

    private static void usePermits(StringBuilder text, HandoverDeck deck) {
        add(text, "cancel", deck::cancel);
        add(text, "begin", () -> deck.begin(0));
        for (int i = 0; i < 8; i++) {
            int number = i;
            add(text, "openPermit" + i, () -> deck.openPermit(1 << number));
            add(text, "closePermit" + i, () -> deck.closePermit(number));
            add(text, "reason" + i, () -> deck.reason(number));
        }
    }

    private static void useCrews(StringBuilder text, HandoverDeck deck) {
        for (int i = 0; i < 4; i++) {
            int crew = i;
            add(text, "begin" + i, () -> deck.begin(crew));
        }
        acknowledgeAll(text, deck);
        for (int hours = 1; hours <= 12; hours++) {
            int next = hours % 4;
            add(text, "take", deck::take);
            add(text, "isTired", deck::isTired);
            for (int i = 3; i >= 0; i--) {
                int crew = i;
                add(text, "restLeft" + i, () -> deck.restLeft(crew));
            }
            add(text, "handOver", () -> deck.handOver(next));
            add(text, "pass", () -> deck.pass(1));
        }
    }
}
