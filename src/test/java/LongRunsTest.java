import java.util.ArrayList;
import java.util.List;

/**
 * What is done again and again in one run: steps taken again after they were undone or reset, alarms raised and
 * shelved again, crews that come back after their rest, hand-overs begun again, lines that stay open over several of
 * them. What is due is found by each test alone; no run has more than 512 calls.
 */
public final class LongRunsTest extends Edges {
    private LongRunsTest() {
        super("long runs");
    }

    public static void main(String[] args) {
        new LongRunsTest().runAll("procedures", "drills", "alarms", "crews", "handovers", "lines", "permits",
                "questions", "exceptions");
    }

    private static HandoverDeck onDuty() {
        HandoverDeck deck = new HandoverDeck();
        deck.begin(0);
        return deck;
    }

    /** Crew 0 is on duty; procedure 0 has 8 steps, which lead unit 5 from 0 to 1, 2, 3, 0 and so on. */
    private static HandoverDeck withEightSteps() {
        HandoverDeck deck = onDuty();
        deck.addProcedure();
        for (int number = 0; number < 8; number++) {
            deck.addStep(0, 5, number % 4, 5, (number + 1) % 4);
        }
        return deck;
    }

    private void sameOpen(String what, HandoverDeck deck, List<Integer> lines) {
        same(what + ", open lines", lines.size(), deck.openLines());
        same(what + ", open lines by the log", lines.size(), deck.openByLog());
        for (int index = 0; index < lines.size(); index++) {
            same(what + ", open line at " + index, lines.get(index), deck.openAt(index));
        }
    }

    /** One step, taken and undone until all lines are used up: each time a line of its own, closed by the next. */
    void proceduresStepIsTakenAgainAfterItWasUndone() {
        HandoverDeck deck = onDuty();
        Decks.addProcedure(deck, new int[][] {{7, 0, 3, 2}});
        for (int line = 0; line < 60; line++) {
            same("taken", 0, deck.step(0));
            same("lines closed", 0, deck.openLines());
            same("set", 2, deck.state(3));
            same("undone", line, deck.undo(0));
            same("as noted", 0, deck.state(3));
            same("the only open line", 1, deck.openByLog());
            same("its line", line, deck.openAt(0));
        }
        same("taken for the last time", 0, deck.step(0));
        fails("60 lines", STATE, () -> deck.undo(0));
        same("still done", 1, deck.done(0));
        same("still set", 2, deck.state(3));
        same("no line is open for it", 0, deck.reset(0));
        same("taken without a line", 0, deck.step(0));
        same("all are closed", 1.0f, deck.closedShare());
        isTrue("sound", deck.isSound());
    }

    /** Eight steps of one unit: undone, the states come back one by one; taken again, the lines are closed so. */
    void proceduresAllStepsAreUndoneAndTakenAgain() {
        HandoverDeck deck = withEightSteps();
        for (int round = 0; round < 3; round++) {
            takeEight(deck, 8);
            for (int number = 7; number >= 0; number--) {
                same("the line of step " + number, 8 * round + 7 - number, deck.undo(0));
                same("the state before step " + number, number % 4, deck.state(5));
                same("done before step " + number, number, deck.done(0));
                same("open lines", 8 - number, deck.openLines());
            }
        }
        takeEight(deck, 8);
        same("no line is left for a reset", 0, deck.reset(0));
    }

    private void takeEight(HandoverDeck deck, int openBefore) {
        boolean first = deck.openLines() == 0;
        for (int number = 0; number < 8; number++) {
            same("step", number, deck.step(0));
            same("lines after step " + number, first ? 0 : openBefore - 1 - number, deck.openLines());
        }
        same("all are done", 'e', deck.reason(0));
    }

    /** After a reset states stay: the first step is taken again where its unit is in the state that it needs. */
    void proceduresAreTakenAgainAfterAReset() {
        HandoverDeck deck = withEightSteps();
        Decks.addProcedure(deck, new int[][] {{6, 0, 5, 0}});
        for (int taken = 1; taken <= 8; taken++) {
            for (int number = 0; number < taken; number++) {
                same("step", number, deck.step(0));
            }
            same("no lines", 0, deck.reset(0));
            same("none is done", 0, deck.done(0));
            same("the state stays", taken % 4, deck.state(5));
            fails("nothing to undo", STATE, () -> deck.undo(0));
            same("the first step needs state 0", taken % 4 == 0 ? '-' : 'n', deck.reason(0));
            deck.step(1);
            deck.reset(1);
            same("another brings it back", '-', deck.reason(0));
        }
        same("no line was opened", 0, deck.openLines());
        fails("none at all", ARITHMETIC, deck::closedShare);
    }

    /** Lines of undone steps of three procedures; a step closes its own, a reset those of its procedure. */
    void proceduresCloseTheirOwnLines() {
        HandoverDeck deck = onDuty();
        for (int procedure = 0; procedure < 3; procedure++) {
            Decks.addProcedure(deck, new int[][] {{7, 0, procedure, 1}, {7, 0, procedure, 2}});
        }
        for (int round = 0; round < 4; round++) {
            int first = 6 * round;
            for (int procedure = 0; procedure < 3; procedure++) {
                deck.step(procedure);
                deck.step(procedure);
                same("step 1", first + 2 * procedure, deck.undo(procedure));
                same("step 0", first + 2 * procedure + 1, deck.undo(procedure));
            }
            same("step 0 of procedure 1", 0, deck.step(1));
            sameOpen("it closes its own", deck, List.of(first, first + 1, first + 2, first + 4, first + 5));
            same("reset after it", 1, deck.reset(1));
            sameOpen("it closes the other", deck, List.of(first, first + 1, first + 4, first + 5));
            same("both of procedure 0", 2, deck.reset(0));
            same("once more", 0, deck.reset(0));
            deck.step(2);
            sameOpen("step 0 of procedure 2", deck, List.of(first + 4));
            deck.step(2);
            sameOpen("step 1 of procedure 2", deck, List.of());
            same("nothing is left", 0, deck.reset(2));
            isTrue("sound", deck.isSound());
        }
    }

    /** Steps are taken at many hours, undone and reset in between; the drill is that of the earliest hour. */
    void drillsAreOfTheStepNotTakenForLongest() {
        HandoverDeck deck = onDuty();
        int[] takenAt = {-1, -1, -1, -1, -1, -1, -1, -1, -1};
        int[] done = new int[3];
        for (int procedure = 0; procedure < 3; procedure++) {
            Decks.addProcedure(deck, new int[][] {{7, 0, 0, 0}, {7, 0, 0, 0}, {7, 0, 0, 0}});
        }
        int crew = 0;
        for (int turn = 0; turn < 60; turn++) {
            int procedure = turn * turn % 7 % 3;
            same("before turn " + turn, earliest(takenAt), deck.drill());
            if (done[procedure] == 3) {
                deck.reset(procedure);
                done[procedure] = 0;
            }
            same("step", done[procedure], deck.step(procedure));
            takenAt[3 * procedure + done[procedure]] = deck.hour();
            done[procedure]++;
            if (turn % 5 == 4) {
                deck.undo(procedure);
                done[procedure]--;
            }
            same("after turn " + turn, earliest(takenAt), deck.drill());
            if (turn % 3 == 0) {
                deck.pass(2);
            }
            if (turn % 12 == 11) {
                crew = (crew + 1) % 4;
                Decks.change(deck, crew);
            }
        }
    }

    /** The first of those of the earliest hour, as 8 times its procedure, plus its step. */
    private static int earliest(int[] takenAt) {
        int first = 0;
        for (int i = 1; i < takenAt.length; i++) {
            first = takenAt[i] < takenAt[first] ? i : first;
        }
        return first / 3 * 8 + first % 3;
    }

    /** One alarm, raised, shelved and cleared until all lines are used up: nothing is left of the time before. */
    void alarmsAreRaisedAgainAfterTheyWereCleared() {
        HandoverDeck deck = new HandoverDeck();
        for (int line = 0; line < 60; line++) {
            int priority = line % 5 + 1;
            same("raised", line, deck.raise(4, 2, priority));
            isFalse("not shelved by the time before", deck.isShelved(4, 2));
            same("at the top", line, deck.top());
            same("at its priority", 1, deck.alarms(priority));
            same("shelved", line + 24, deck.shelve(4, 2, 24));
            same("cleared", line, deck.clear(4, 2));
            same("no shelf ends", 0, deck.pass(1));
        }
        fails("60 lines", STATE, () -> deck.raise(4, 2, 1));
        fails("cleared already", ELEMENT, () -> deck.clear(4, 2));
        same("none is open", 0, deck.openByLog());
        same("all are closed", 1.0f, deck.closedShare());
        fails("no ages", ARITHMETIC, deck::meanAge);
    }

    /** "The one that was raised first": when it was raised last. */
    void alarmsRaisedAgainComeLater() {
        HandoverDeck deck = new HandoverDeck();
        deck.raise(0, 0, 3);
        deck.raise(7, 3, 3);
        for (int line = 2; line < 40; line += 2) {
            same("the one of unit 0", line - 2, deck.top());
            deck.clear(0, 0);
            same("raised again", line, deck.raise(0, 0, 3));
            same("the one of unit 7", line - 1, deck.top());
            deck.clear(7, 3);
            same("both raised again", line + 1, deck.raise(7, 3, 3));
        }
        deck.clear(7, 3);
        same("at a greater priority", 40, deck.raise(7, 3, 4));
        same("it comes first", 40, deck.top());
        deck.clear(7, 3);
        same("at a lesser one", 41, deck.raise(7, 3, 2));
        same("it comes last", 38, deck.top());
    }

    /** Shelved again, for all hours from 1 to 24, each time from then on. */
    void alarmsAreShelvedAgain() {
        HandoverDeck deck = new HandoverDeck();
        deck.raise(3, 3, 5);
        deck.raise(0, 0, 1);
        int hour = 0;
        for (int hours = 1; hours <= 24; hours++) {
            same("the end", hour + hours, deck.shelve(3, 3, hours));
            same("the other is at the top", 1, deck.top());
            if (hours > 1) {
                same("not yet", 0, deck.pass(hours - 1));
            }
            isTrue("in its last hour", deck.isShelved(3, 3));
            fails("it is shelved", STATE, () -> deck.shelve(3, 3, 24));
            same("in the hour of its end", 1, deck.pass(1));
            isFalse("no more", deck.isShelved(3, 3));
            same("it is at the top", 0, deck.top());
            same("an hour later", 0, deck.pass(1));
            hour += hours + 1;
        }
        same("the hours", hour, deck.hour());
    }

    /** Several alarms with ends of their own, shelved again as soon as they are shelved no more. */
    void alarmsAreShelvedAgainEachForItself() {
        HandoverDeck deck = new HandoverDeck();
        int[] ends = new int[4];
        for (int unit = 0; unit < 4; unit++) {
            deck.raise(unit, unit, unit + 1);
        }
        for (int hour = 0; hour < 45; hour++) {
            for (int unit = 0; unit < 4; unit++) {
                if (ends[unit] <= hour) {
                    ends[unit] = hour + 2 * unit + 3;
                    same("the end", ends[unit], deck.shelve(unit, unit, 2 * unit + 3));
                }
            }
            same("all are shelved", 0, deck.alarms(1));
            int ended = 0;
            for (int unit = 0; unit < 4; unit++) {
                ended += ends[unit] == hour + 1 ? 1 : 0;
            }
            same("shelved no more at hour " + (hour + 1), ended, deck.pass(1));
            same("not shelved at hour " + (hour + 1), ended, deck.alarms(1));
            for (int unit = 0; unit < 4; unit++) {
                same("alarm " + unit, ends[unit] > hour + 1, deck.isShelved(unit, unit));
            }
        }
    }

    /** Shifts of so many hours, by all crews in turn, each as soon as it is rested; asked in each hour. */
    void crewsComeOnDutyInTurn() {
        for (int shift = 1; shift <= 14; shift++) {
            HandoverDeck deck = onDuty();
            Integer[] ended = new Integer[4];
            int crew = 0;
            int began = 0;
            for (int hour = 0; hour < 50; hour++) {
                int next = (crew + 1) % 4;
                if (hour - began >= shift && isRested(ended[next], hour)) {
                    same("rested at hour " + hour, 0, deck.handOver(next));
                    same("taken at hour " + hour, 0, deck.take());
                    ended[crew] = hour;
                    crew = next;
                    began = hour;
                } else if (hour - began >= shift) {
                    fails("not rested at hour " + hour, UNSUPPORTED, () -> deck.handOver(next));
                }
                same("on duty at hour " + hour, crew, deck.onDuty());
                same("tired at hour " + hour, hour - began >= 12, deck.isTired());
                for (int other = 0; other < 4; other++) {
                    boolean rests = other != crew && !isRested(ended[other], hour);
                    same("rest of " + other, rests ? ended[other] + 11 - hour : 0, deck.restLeft(other));
                }
                deck.pass(1);
            }
        }
    }

    private static boolean isRested(Integer ended, int hour) {
        return ended == null || hour - ended >= 11;
    }

    /** Two crews by turns: each comes back when it is rested, with hour 0 of its shift, and works. */
    void crewsComeBackAfterTheirRest() {
        HandoverDeck deck = onDuty();
        Decks.addProcedure(deck, new int[][] {{7, 0, 0, 0}});
        Decks.change(deck, 1);
        for (int round = 0; round < 25; round++) {
            int resting = round % 2;
            deck.pass(10);
            same("an hour is left", 1, deck.restLeft(resting));
            fails("not rested", UNSUPPORTED, () -> deck.handOver(resting));
            deck.pass(1);
            same("no hour is left", 0, deck.restLeft(resting));
            isFalse("the other is on duty for 11 hours", deck.isTired());
            Decks.change(deck, resting);
            same("it is back", resting, deck.onDuty());
            same("the other rests", 11, deck.restLeft(1 - resting));
            same("it takes a step", 0, deck.step(0));
            deck.reset(0);
        }
        deck.pass(11);
        same("11 hours of its last shift", '-', deck.reason(0));
        deck.pass(1);
        same("12 hours of its last shift", 't', deck.reason(0));
    }

    /** Cancelled and begun again, to another crew each time: nothing is acknowledged any more, no shift ends. */
    void handoversAreCancelledAndBegunAgain() {
        HandoverDeck deck = Decks.withNotes(4);
        deck.close(1);
        deck.begin(0);
        for (int round = 0; round < 30; round++) {
            int crew = round % 3 + 1;
            same("open lines", 3, deck.handOver(crew));
            fails("none is acknowledged", UNSUPPORTED, deck::take);
            same("line 3", 2, deck.acknowledge(3));
            if (round % 2 == 0) {
                same("line 0", 1, deck.acknowledge(0));
            }
            deck.pass(1);
            same("acknowledged", round % 2 == 0 ? 2 : 1, deck.cancel());
            fails("cancelled", STATE, () -> deck.acknowledge(2));
            same("the crew stays", 0, deck.onDuty());
            same("the other has ended no shift", 0, deck.restLeft(crew));
            same("tired", round >= 11, deck.isTired());
            same("passed", 0, deck.passed(3));
        }
        deck.handOver(3);
        Decks.acknowledgeAll(deck);
        same("taken at last", 3, deck.take());
        same("by the last crew", 3, deck.onDuty());
        same("one is passed", 1, deck.passed(0));
        same("the closed line has passed none", 0, deck.passed(1));
        same("the crew before rests", 11, deck.restLeft(0));
    }

    /** Begun again with lines closed and opened in between. */
    void handoversBegunAgainNeedTheLinesOfThen() {
        HandoverDeck deck = Decks.withNotes(3);
        deck.begin(0);
        for (int round = 0; round < 20; round++) {
            int oldest = round;
            same("begun", 3, deck.handOver(1 + round % 2));
            same("the oldest", 2, deck.acknowledge(oldest));
            same("the next", 1, deck.acknowledge(oldest + 1));
            same("the oldest is closed", 2, deck.close(oldest));
            same("one is opened", oldest + 3, deck.note());
            same("that one", 1, deck.acknowledge(oldest + 3));
            same("two of three", 2, deck.cancel());
        }
        deck.handOver(3);
        same("one", 2, deck.acknowledge(20));
        same("two", 1, deck.acknowledge(22));
        fails("the third is left", UNSUPPORTED, deck::take);
        same("three", 0, deck.acknowledge(21));
        same("taken", 3, deck.take());
    }

    /** A line of each kind from before the first hand-over, and a note of each shift, some of which are closed. */
    void linesStayOpenOverSeveralHandOvers() {
        HandoverDeck deck = onDuty();
        Decks.addProcedure(deck, new int[][] {{7, 0, 0, 1}});
        deck.raise(1, 1, 1);
        deck.openPermit(128);
        deck.step(0);
        deck.undo(0);
        List<Integer> open = new ArrayList<>(List.of(0, 1, 2));
        int[] passed = new int[13];
        for (int shift = 0; shift < 10; shift++) {
            deck.pass(4);
            open.add(deck.note());
            if (shift % 4 == 3) {
                deck.close(open.remove(3));
            }
            changeWithAll(deck, (shift + 1) % 4, open, passed);
        }
        for (int line = 0; line < passed.length; line++) {
            same("hand-overs of line " + line, passed[line], deck.passed(line));
        }
        sameOpen("after ten", deck, open);
        same("ages of all", (3 * 40 + 4 * (0 + 1 + 2 + 3 + 4 + 5 + 6 + 7)) / 11.0, deck.meanAge());
        same("the alarm", 0, deck.clear(1, 1));
        same("the permit", 1, deck.closePermit(0));
        same("the step", 0, deck.step(0));
        sameOpen("the notes", deck, open.subList(3, open.size()));
        same("the alarm passed them all", 10, deck.passed(0));
        isTrue("sound", deck.isSound());
    }

    private void changeWithAll(HandoverDeck deck, int crew, List<Integer> open, int[] passed) {
        same("begun", open.size(), deck.handOver(crew));
        for (int i = open.size() - 1; i >= 0; i--) {
            same("left", i, deck.acknowledge(open.get(i)));
            passed[open.get(i)]++;
        }
        same("taken", open.size(), deck.take());
    }

    /** All lines, opened one each hour and closed in another order: all that is told of them, each time. */
    void linesAreToldTheWholeWay() {
        HandoverDeck deck = new HandoverDeck();
        List<Integer> open = new ArrayList<>();
        for (int line = 0; line < 60; line++) {
            deck.note();
            open.add(line);
            if (line % 3 == 2) {
                int closed = open.remove(line * 5 % open.size());
                same("open then", open.size(), deck.close(closed));
            }
            same("the first", open.get(0), deck.openAt(0));
            same("the last", open.get(open.size() - 1), deck.openAt(open.size() - 1));
            same("the share", (float) (line + 1 - open.size()) / (float) (line + 1), deck.closedShare());
            int sum = 0;
            for (int number : open) {
                sum += line - number;
            }
            same("the ages", (double) sum / (double) open.size(), deck.meanAge());
            deck.pass(1);
        }
        sameOpen("in the end", deck, open);
    }

    /** One unit, eight permits, each opened when the one before is closed, by crews in turn. */
    void permitsAreOpenedAgainOnTheSameUnits() {
        HandoverDeck deck = onDuty();
        Decks.addProcedure(deck, new int[][] {{7, 0, 2, 0}});
        for (int permit = 0; permit < 8; permit++) {
            int number = permit;
            same("opened", permit, deck.openPermit(0b00000100));
            same("it bars", permit, deck.barredBy(0));
            fails("its unit is taken", permit < 7 ? UNSUPPORTED : STATE, () -> deck.openPermit(0b00000110));
            deck.pass(4);
            Decks.change(deck, (permit + 1) % 4);
            fails("the next crew waits", STATE, () -> deck.step(0));
            same("its line", permit, deck.closePermit(permit));
            fails("it is closed", STATE, () -> deck.closePermit(number));
            same("the line of it has passed", 1, deck.passed(permit));
            same("the step is taken", 0, deck.step(0));
            deck.reset(0);
        }
        for (int permit = 0; permit < 8; permit++) {
            isFalse("open " + permit, deck.isPermitOpen(permit));
        }
        fails("8 permits, all closed", STATE, () -> deck.openPermit(1));
        same("none is open", 0, deck.openLines());
    }

    /** A run with a question before each of its calls: all is answered as without it. */
    void questionsInBetweenChangeNothing() {
        for (Call question : questions()) {
            sameWithInBetween(question);
        }
    }

    /** A run with a refused call before each of its calls: all is answered as without it. */
    void exceptionsInBetweenChangeNothing() {
        for (Call refused : refusedAlways()) {
            sameWithInBetween(refused);
            isTrue("on a new deck", Check.answerOf(() -> refused.on(new HandoverDeck())).startsWith("throws."));
        }
    }

    private void sameWithInBetween(Call between) {
        HandoverDeck plain = new HandoverDeck();
        HandoverDeck disturbed = new HandoverDeck();
        Call[] run = aRun();
        for (int i = 0; i < run.length; i++) {
            Call next = run[i];
            Check.answerOf(() -> between.on(disturbed));
            String due = Check.answerOf(() -> next.on(plain));
            isFalse("call " + i + " is not refused, but " + due, due.startsWith("throws."));
            same("call " + i, due, Check.answerOf(() -> next.on(disturbed)));
        }
        for (Call question : questions()) {
            same("in the end", Check.answerOf(() -> question.on(plain)), Check.answerOf(() -> question.on(disturbed)));
        }
    }

    /** Of each of the calls that do something, one at least. */
    private static Call[] aRun() {
        return new Call[] {
            deck -> deck.begin(0), HandoverDeck::addProcedure, deck -> deck.addStep(0, 0, 0, 1, 1),
            deck -> deck.addStep(0, 1, 1, 0, 1), deck -> deck.raise(0, 0, 3), deck -> deck.raise(1, 1, 4),
            deck -> deck.step(0), deck -> deck.step(0), deck -> deck.undo(0), deck -> deck.shelve(1, 1, 2),
            deck -> deck.pass(1), deck -> deck.openPermit(6), deck -> deck.handOver(1), deck -> deck.acknowledge(0),
            HandoverDeck::note, HandoverDeck::cancel, deck -> deck.handOver(2), deck -> deck.acknowledge(0),
            deck -> deck.acknowledge(1), deck -> deck.acknowledge(2), deck -> deck.acknowledge(3),
            deck -> deck.acknowledge(4), HandoverDeck::take, deck -> deck.step(0), deck -> deck.closePermit(0),
            deck -> deck.undo(0), deck -> deck.undo(0), deck -> deck.reset(0), deck -> deck.pass(1),
            deck -> deck.clear(1, 1), deck -> deck.raise(1, 1, 2), deck -> deck.shelve(1, 1, 24),
            deck -> deck.close(4), deck -> deck.step(0), deck -> deck.pass(9), deck -> deck.handOver(1),
            deck -> deck.acknowledge(0)};
    }

    private static Call[] questions() {
        return new Call[] {
            deck -> deck.state(0), deck -> deck.state(1), deck -> deck.isShelved(0, 0), deck -> deck.isShelved(1, 1),
            deck -> deck.alarms(1), deck -> deck.alarms(4), HandoverDeck::top, deck -> deck.done(0),
            deck -> deck.reason(0), deck -> deck.barredBy(0), HandoverDeck::drill, deck -> deck.isPermitOpen(0),
            HandoverDeck::hour, HandoverDeck::onDuty, HandoverDeck::isTired, deck -> deck.restLeft(0),
            deck -> deck.restLeft(1), deck -> deck.restLeft(2), HandoverDeck::openLines, HandoverDeck::openByLog,
            deck -> deck.openAt(0), deck -> deck.openAt(1), deck -> deck.openAt(2), deck -> deck.kindOf(0),
            deck -> deck.kindOf(2), deck -> deck.passed(0), deck -> deck.passed(4), HandoverDeck::closedShare,
            HandoverDeck::meanAge, HandoverDeck::isSound};
    }

    /** What is refused in each state of that run. */
    private static Call[] refusedAlways() {
        return new Call[] {
            deck -> deck.state(8), deck -> deck.raise(8, 0, 1), deck -> deck.raise(0, 4, 1),
            deck -> deck.raise(7, 3, 0), deck -> deck.clear(-1, 0), deck -> deck.clear(7, 3),
            deck -> deck.shelve(0, -1, 1), deck -> deck.shelve(7, 3, 1), deck -> deck.isShelved(8, 0),
            deck -> deck.alarms(6), deck -> deck.addStep(1, 0, 0, 0, 0), deck -> deck.addStep(0, 8, 0, 0, 0),
            deck -> deck.addStep(0, 0, 4, 0, 0), deck -> deck.done(1), deck -> deck.reason(-1),
            deck -> deck.barredBy(6), deck -> deck.step(1), deck -> deck.undo(1), deck -> deck.reset(1),
            deck -> deck.openPermit(0), deck -> deck.openPermit(256), deck -> deck.closePermit(1),
            deck -> deck.isPermitOpen(8), deck -> deck.close(60), deck -> deck.begin(4), deck -> deck.handOver(-1),
            deck -> deck.acknowledge(60), deck -> deck.pass(0), deck -> deck.pass(49), deck -> deck.restLeft(4),
            deck -> deck.openAt(60), deck -> deck.kindOf(-1), deck -> deck.passed(60)};
    }
}
