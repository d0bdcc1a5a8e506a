/**
 * The sentences of the document's terms that name no boundary case: what one call leaves behind for the others. Each
 * method is named by its part of the terms; what goes on for long is in LongRunsTest.
 */
public final class TermsTest extends Edges {
    private TermsTest() {
        super("terms");
    }

    public static void main(String[] args) {
        new TermsTest().runAll("calls", "units", "lines", "alarms", "procedures", "permits", "crews", "handovers",
                "reasons");
    }

    private static HandoverDeck onDuty() {
        HandoverDeck deck = new HandoverDeck();
        deck.begin(0);
        return deck;
    }

    /** Crew 0 is on duty; line 0 is of an alarm, 1 of a note, 2 of a permit, 3 of a step that was undone. */
    private static HandoverDeck withLineOfEachKind() {
        HandoverDeck deck = onDuty();
        Decks.addProcedure(deck, new int[][] {{0, 0, 1, 1}});
        deck.raise(7, 3, 2);
        deck.note();
        deck.openPermit(128);
        deck.step(0);
        deck.undo(0);
        return deck;
    }

    private void sameOpen(String what, HandoverDeck deck, int... lines) {
        same(what + ", open lines", lines.length, deck.openLines());
        same(what + ", open lines by the log", lines.length, deck.openByLog());
        for (int index = 0; index < lines.length; index++) {
            same(what + ", open line at " + index, lines[index], deck.openAt(index));
        }
        fails(what + ", no other open line", INDEX, () -> deck.openAt(lines.length));
        isTrue(what + ", sound", deck.isSound());
    }

    private void sameKinds(HandoverDeck deck, String kinds) {
        for (int line = 0; line < kinds.length(); line++) {
            same("kind of line " + line, kinds.charAt(line), deck.kindOf(line));
        }
    }

    /** The 512th call is the last that is promised. */
    void callsUpToThe512th() {
        same("raise", 3, beforeThe512th().raise(0, 0, 5));
        same("clear", 0, beforeThe512th().clear(7, 3));
        same("shelve", 24, beforeThe512th().shelve(7, 3, 24));
        same("top", 0, beforeThe512th().top());
        same("addProcedure", 1, beforeThe512th().addProcedure());
        same("addStep", 2, beforeThe512th().addStep(0, 0, 0, 0, 0));
        same("step", 1, beforeThe512th().step(0));
        same("undo", 3, beforeThe512th().undo(0));
        same("reset", 0, beforeThe512th().reset(0));
        same("drill", 1, beforeThe512th().drill());
        same("openPermit", 1, beforeThe512th().openPermit(1));
        same("closePermit", 1, beforeThe512th().closePermit(0));
        same("note", 3, beforeThe512th().note());
        same("close", 2, beforeThe512th().close(2));
        same("handOver", 3, beforeThe512th().handOver(3));
        same("pass", 0, beforeThe512th().pass(48));
        isTrue("isSound", beforeThe512th().isSound());
        fails("begin", STATE, () -> beforeThe512th().begin(1));
    }

    /** 511 calls: lines 0 of an alarm, 1 of a permit, 2 of a note; one of two steps is done. */
    private static HandoverDeck beforeThe512th() {
        HandoverDeck deck = onDuty();
        deck.addProcedure();
        deck.addStep(0, 0, 0, 0, 1);
        deck.addStep(0, 0, 1, 1, 1);
        deck.step(0);
        deck.raise(7, 3, 1);
        deck.openPermit(128);
        deck.note();
        for (int call = 9; call <= 511; call++) {
            deck.hour();
        }
        return deck;
    }

    /** "Its calls are what operators do and hours that pass; all other calls ask." */
    void callsThatAskChangeNothing() {
        for (Decks.Maker maker : Decks.ALL) {
            askAll(maker);
        }
        askAll(TermsTest::allUndone);
    }

    /** All steps were taken, and undone since; in a hand-over all lines but the first are acknowledged. */
    private static HandoverDeck allUndone() {
        HandoverDeck deck = onDuty();
        Decks.addProcedure(deck, new int[][] {{0, 0, 1, 1}, {0, 0, 1, 2}});
        deck.step(0);
        deck.step(0);
        deck.undo(0);
        deck.undo(0);
        deck.openPermit(2);
        deck.raise(0, 0, 3);
        deck.handOver(1);
        for (int line = 1; line < 4; line++) {
            deck.acknowledge(line);
        }
        return deck;
    }

    private void askAll(Decks.Maker maker) {
        askOnce(maker);
        for (int number = -1; number <= 8; number++) {
            askByNumber(maker, number);
        }
        for (int line = -1; line <= 60; line++) {
            int number = line;
            unchanged("openAt " + number, maker, deck -> deck.openAt(number));
            unchanged("kindOf " + number, maker, deck -> deck.kindOf(number));
            unchanged("passed " + number, maker, deck -> deck.passed(number));
        }
    }

    private void askOnce(Decks.Maker maker) {
        unchanged("top", maker, HandoverDeck::top);
        unchanged("drill", maker, HandoverDeck::drill);
        unchanged("hour", maker, HandoverDeck::hour);
        unchanged("onDuty", maker, HandoverDeck::onDuty);
        unchanged("isTired", maker, HandoverDeck::isTired);
        unchanged("openLines", maker, HandoverDeck::openLines);
        unchanged("openByLog", maker, HandoverDeck::openByLog);
        unchanged("closedShare", maker, HandoverDeck::closedShare);
        unchanged("meanAge", maker, HandoverDeck::meanAge);
        unchanged("isSound", maker, HandoverDeck::isSound);
    }

    private void askByNumber(Decks.Maker maker, int number) {
        unchanged("state " + number, maker, deck -> deck.state(number));
        unchanged("alarms " + number, maker, deck -> deck.alarms(number));
        unchanged("done " + number, maker, deck -> deck.done(number));
        unchanged("reason " + number, maker, deck -> deck.reason(number));
        unchanged("barredBy " + number, maker, deck -> deck.barredBy(number));
        unchanged("isPermitOpen " + number, maker, deck -> deck.isPermitOpen(number));
        unchanged("restLeft " + number, maker, deck -> deck.restLeft(number));
        for (int k = -1; k <= 4; k++) {
            int kind = k;
            unchanged("isShelved " + number + " " + kind, maker, deck -> deck.isShelved(number, kind));
        }
    }

    /** "No step is taken that a permit bars", for each unit and each set of units. */
    void callsTakeNoStepThatAPermitBars() {
        for (int unit = 0; unit < 8; unit++) {
            for (int set = 1; set <= 255; set++) {
                HandoverDeck deck = onDuty();
                Decks.addProcedure(deck, new int[][] {{unit, 0, unit, 3}});
                deck.openPermit(set);
                String what = "unit " + unit + ", set " + set;
                if ((set >> unit) % 2 == 1) {
                    fails(what + " is barred", STATE, () -> deck.step(0));
                    same(what + " is left as it was", 0, deck.state(unit));
                    deck.closePermit(0);
                }
                same(what + " is taken", 0, deck.step(0));
                same(what + " is set", 3, deck.state(unit));
            }
        }
    }

    /** "No open line is lost": the four lines stay, whatever is done beside them. */
    void callsLoseNoOpenLine() {
        HandoverDeck deck = withLineOfEachKind();
        sameOpen("at first", deck, 0, 1, 2, 3);
        deck.shelve(7, 3, 1);
        deck.pass(2);
        sameOpen("shelved, and no more", deck, 0, 1, 2, 3);
        Decks.addProcedure(deck, new int[][] {{0, 0, 1, 1}});
        deck.step(1);
        deck.undo(1);
        sameOpen("the same step of another procedure", deck, 0, 1, 2, 3, 4);
        deck.reset(1);
        deck.raise(3, 3, 5);
        deck.clear(3, 3);
        deck.close(deck.note());
        deck.openPermit(64);
        deck.closePermit(1);
        sameOpen("others are closed", deck, 0, 1, 2, 3);
        fails("a line of an alarm", UNSUPPORTED, () -> deck.close(0));
        fails("a line of a permit", UNSUPPORTED, () -> deck.close(2));
        fails("a line of a step", UNSUPPORTED, () -> deck.close(3));
        sameOpen("closed as notes are", deck, 0, 1, 2, 3);
        deck.handOver(1);
        deck.acknowledge(0);
        deck.acknowledge(3);
        deck.cancel();
        Decks.change(deck, 2);
        sameOpen("handed over", deck, 0, 1, 2, 3);
    }

    /** "A unit has a state": setting one leaves all others. */
    void unitsHaveAStateEach() {
        for (int unit = 0; unit < 8; unit++) {
            for (int state = 0; state < 4; state++) {
                HandoverDeck deck = onDuty();
                Decks.addProcedure(deck, new int[][] {{7 - unit, 0, unit, state}});
                deck.step(0);
                for (int other = 0; other < 8; other++) {
                    same("unit " + other, other == unit ? state : 0, deck.state(other));
                }
            }
        }
    }

    /** Steps alone, taken and undone, change a state. */
    void unitsKeepTheirState() {
        HandoverDeck deck = onDuty();
        Decks.addProcedure(deck, new int[][] {{3, 0, 3, 2}});
        deck.step(0);
        deck.addStep(0, 3, 2, 3, 1);
        deck.raise(3, 0, 5);
        deck.shelve(3, 0, 2);
        deck.pass(4);
        same("alarms and hours", 2, deck.state(3));
        deck.openPermit(8);
        deck.closePermit(0);
        same("a permit", 2, deck.state(3));
        Decks.change(deck, 1);
        deck.handOver(2);
        deck.cancel();
        same("hand-overs", 2, deck.state(3));
        deck.clear(3, 0);
        deck.reset(0);
        same("a reset", 2, deck.state(3));
        fails("step 0 needs state 0", STATE, () -> deck.step(0));
        same("a step that is refused", 2, deck.state(3));
    }

    /** "Time is counted in hours, from 0": nothing but hours that pass adds to them. */
    void unitsTimeGoesOnByPassAlone() {
        HandoverDeck deck = withLineOfEachKind();
        deck.shelve(7, 3, 24);
        deck.step(0);
        deck.reset(0);
        Decks.change(deck, 1);
        deck.closePermit(0);
        deck.clear(7, 3);
        deck.close(1);
        same("no hours have passed", 0, deck.hour());
        deck.pass(1);
        deck.pass(47);
        same("all that have passed", 48, deck.hour());
        fails("none of these pass", ARGUMENT, () -> deck.pass(49));
        same("still", 48, deck.hour());
    }

    /** "Numbered from 0 in the order in which they are opened", whatever their kind; no number comes again. */
    void linesAreNumberedAsTheyAreOpened() {
        HandoverDeck deck = onDuty();
        Decks.addProcedure(deck, new int[][] {{0, 0, 1, 1}});
        same("a note", 0, deck.note());
        same("an alarm", 1, deck.raise(0, 0, 1));
        same("a permit", 0, deck.openPermit(128));
        deck.step(0);
        same("a step", 3, deck.undo(0));
        deck.close(0);
        same("a note behind a closed one", 4, deck.note());
        deck.clear(0, 0);
        same("the same alarm", 5, deck.raise(0, 0, 1));
        deck.closePermit(0);
        same("the same units", 1, deck.openPermit(128));
        deck.step(0);
        same("the same step", 7, deck.undo(0));
        sameKinds(deck, "napsnaps");
        sameOpen("of these", deck, 4, 5, 6, 7);
        same("the line of the second permit", 6, deck.closePermit(1));
        same("the second line of the alarm", 5, deck.clear(0, 0));
        sameOpen("in the end", deck, 4, 7);
    }

    /** "At most 60 lines": whichever way opens the last one, each way is refused then. */
    void linesOfAllKindsCount() {
        for (int last = 0; last < 4; last++) {
            HandoverDeck deck = withLineOfEachKind();
            deck.step(0);
            for (int line = 4; line < 59; line++) {
                deck.note();
            }
            int way = last;
            open(deck, way);
            same("the kind of the last", "anps".charAt(last), deck.kindOf(59));
            for (int next = 0; next < 4; next++) {
                int refusedWay = next;
                deck.reset(0);
                fails("line 60 as " + next, STATE, () -> openAnother(deck, refusedWay));
            }
            fails("there is no line 60", ELEMENT, () -> deck.kindOf(60));
            HandoverDeck roomy = withLineOfEachKind();
            openAnother(roomy, way);
            same("with room", "anps".charAt(way), roomy.kindOf(4));
        }
    }

    private static int open(HandoverDeck deck, int way) {
        return switch (way) {
            case 0 -> deck.raise(6, 0, 1);
            case 1 -> deck.note();
            case 2 -> deck.openPermit(64);
            default -> deck.undo(0);
        };
    }

    /** What nothing refuses but that there are 60 lines. */
    private static int openAnother(HandoverDeck deck, int way) {
        if (way == 3) {
            int other = deck.addProcedure();
            deck.addStep(other, 0, 0, 5, 1);
            deck.step(other);
            return deck.undo(other);
        }
        return switch (way) {
            case 0 -> deck.raise(5, 0, 1);
            case 1 -> deck.note();
            default -> deck.openPermit(32);
        };
    }

    /** "It is open until it is closed", each kind in its own way alone. */
    void linesAreClosedInTheirOwnWay() {
        HandoverDeck deck = withLineOfEachKind();
        same("the alarm", 0, deck.clear(7, 3));
        sameOpen("without the alarm", deck, 1, 2, 3);
        same("the permit", 2, deck.closePermit(0));
        sameOpen("without the permit", deck, 1, 3);
        same("the step", 0, deck.step(0));
        sameOpen("without the step", deck, 1);
        same("the note", 0, deck.close(1));
        sameOpen("without all", deck);
        sameKinds(deck, "anps");
        fails("the alarm once more", ELEMENT, () -> deck.clear(7, 3));
        fails("the permit once more", STATE, () -> deck.closePermit(0));
        fails("the note once more", STATE, () -> deck.close(1));
        same("the step is done", 0, deck.reset(0));
        sameOpen("none is closed twice", deck);
    }

    /** "Active from when it is raised until it is cleared", over shelving, hours and hand-overs. */
    void alarmsAreActiveUntilTheyAreCleared() {
        HandoverDeck deck = onDuty();
        deck.raise(2, 1, 4);
        deck.shelve(2, 1, 3);
        fails("shelved", STATE, () -> deck.raise(2, 1, 5));
        deck.pass(3);
        fails("shelved no more", STATE, () -> deck.raise(2, 1, 5));
        same("at its priority", 1, deck.alarms(4));
        same("at no other", 0, deck.alarms(5));
        deck.handOver(1);
        fails("in a hand-over", STATE, () -> deck.raise(2, 1, 5));
        deck.acknowledge(0);
        deck.take();
        deck.pass(48);
        fails("acknowledged, and long ago", STATE, () -> deck.raise(2, 1, 5));
        same("still at its priority", 1, deck.alarms(4));
        same("still at the top", 0, deck.top());
        same("its line", 0, deck.clear(2, 1));
        same("none is active", 0, deck.alarms(1));
        same("raised by the next crew", 1, deck.raise(2, 1, 5));
    }

    /** "For a unit and a kind": what is done to one alarm is not done to another. */
    void alarmsAreApart() {
        for (int alarm = 0; alarm < 32; alarm++) {
            HandoverDeck deck = new HandoverDeck();
            Decks.raiseAll(deck);
            int unit = alarm / 4;
            int kind = alarm % 4;
            deck.shelve(unit, kind, 2);
            for (int other = 0; other < 32; other++) {
                same("shelved " + other, other == alarm, deck.isShelved(other / 4, other % 4));
            }
            same("not shelved", 31, deck.alarms(1));
            same("cleared", alarm, deck.clear(unit, kind));
            same("of the others", 31, deck.alarms(1));
            same("raised again", 32, deck.raise(unit, kind, 1));
            for (int other = 0; other < 32; other++) {
                int dueLine = other == alarm ? 32 : other;
                same("line of " + other, dueLine, deck.clear(other / 4, other % 4));
            }
        }
    }

    /** "Until they have passed, or it is cleared": hand-overs do not take it off the shelf. */
    void alarmsStayShelvedOverAHandOver() {
        HandoverDeck deck = onDuty();
        deck.raise(1, 2, 5);
        same("the end", 6, deck.shelve(1, 2, 6));
        deck.pass(5);
        Decks.change(deck, 1);
        isTrue("after the hand-over", deck.isShelved(1, 2));
        fails("not at the top", ELEMENT, deck::top);
        same("in its hour", 1, deck.pass(1));
        isFalse("its hours have passed", deck.isShelved(1, 2));
        same("at the top", 0, deck.top());
    }

    /** "So many of them, from step 0 on, are done": in each procedure for itself. */
    void proceduresAreApart() {
        HandoverDeck deck = onDuty();
        for (int procedure = 0; procedure < 6; procedure++) {
            Decks.addProcedure(deck, new int[][] {{7, 0, procedure, 1}, {procedure, 1, procedure, 2}});
        }
        deck.step(1);
        deck.step(4);
        deck.step(4);
        int[] done = {0, 1, 0, 0, 2, 0};
        for (int procedure = 0; procedure < 6; procedure++) {
            same("done of " + procedure, done[procedure], deck.done(procedure));
            same("state of " + procedure, done[procedure], deck.state(procedure));
            same("reason of " + procedure, procedure == 4 ? 'e' : '-', deck.reason(procedure));
        }
        deck.undo(4);
        deck.reset(1);
        same("undone", 1, deck.done(4));
        same("reset", 0, deck.done(1));
        same("the state after the reset", 1, deck.state(1));
        same("never taken", 0, deck.done(5));
    }

    /** "A step needs a unit to be in a state", when it is taken; whether it still is counts no more. */
    void proceduresNeedTheStateWhenTheyAreTaken() {
        HandoverDeck deck = onDuty();
        Decks.addProcedure(deck, new int[][] {{0, 2, 1, 1}, {1, 1, 0, 0}});
        Decks.addProcedure(deck, new int[][] {{2, 0, 0, 2}});
        same("not yet", 'n', deck.reason(0));
        fails("it is refused", STATE, () -> deck.step(0));
        deck.step(1);
        same("another procedure set it", '-', deck.reason(0));
        deck.step(0);
        deck.step(0);
        same("it is set otherwise", 0, deck.state(0));
        same("both stay done", 2, deck.done(0));
        same("the last is undone", 0, deck.undo(0));
        same("its noted state", 2, deck.state(0));
        same("the first is undone", 1, deck.undo(0));
        same("the noted state of the first", 0, deck.state(1));
    }

    /** "The state of the unit that it sets is noted and set": that of when it was taken last. */
    void proceduresNoteTheStateOfTheLastTime() {
        HandoverDeck deck = onDuty();
        Decks.addProcedure(deck, new int[][] {{7, 0, 2, 1}});
        Decks.addProcedure(deck, new int[][] {{7, 0, 2, 3}});
        deck.step(0);
        deck.reset(0);
        deck.step(1);
        deck.step(0);
        deck.undo(0);
        same("noted after the reset", 3, deck.state(2));
        deck.step(0);
        deck.undo(0);
        same("noted after it was undone", 3, deck.state(2));
        deck.undo(1);
        same("noted by the other", 1, deck.state(2));
        deck.step(0);
        same("set to what it was", 1, deck.state(2));
        deck.undo(0);
        same("noted as it was", 1, deck.state(2));
    }

    /** The state counts, not who set it: a step can be undone if its unit is in its state again. */
    void proceduresUndoByTheStateAlone() {
        HandoverDeck deck = onDuty();
        Decks.addProcedure(deck, new int[][] {{7, 0, 2, 1}});
        Decks.addProcedure(deck, new int[][] {{7, 0, 2, 3}, {7, 0, 2, 1}});
        deck.step(0);
        deck.step(1);
        fails("set by another", UNSUPPORTED, () -> deck.undo(0));
        deck.step(1);
        same("set again by another", 0, deck.undo(0));
        same("the state before both", 0, deck.state(2));
        fails("not in the state of the other", UNSUPPORTED, () -> deck.undo(1));
        same("the step is taken anew", 0, deck.step(0));
        same("in the state of the other", 1, deck.undo(1));
        same("the state before the other", 3, deck.state(2));
    }

    /** A step behind all others that is added when all are done is the next. */
    void proceduresGrowBehindDoneSteps() {
        HandoverDeck deck = onDuty();
        deck.addProcedure();
        for (int number = 0; number < 8; number++) {
            same("all are done", 'e', deck.reason(0));
            same("added", number, deck.addStep(0, 4, number % 4, 4, (number + 1) % 4));
            same("to be taken", '-', deck.reason(0));
            same("taken", number, deck.step(0));
            same("done", number + 1, deck.done(0));
        }
        deck.undo(0);
        fails("8 steps, one of which was undone", STATE, () -> deck.addStep(0, 0, 0, 0, 0));
        deck.reset(0);
        fails("8 steps after a reset", STATE, () -> deck.addStep(0, 0, 0, 0, 0));
    }

    /** "It bars steps that set a unit of its set": not those that need one. */
    void permitsBarWhatIsSet() {
        HandoverDeck deck = onDuty();
        Decks.addProcedure(deck, new int[][] {{1, 0, 2, 1}});
        deck.openPermit(0b11111011);
        same("the unit that it needs", '-', deck.reason(0));
        fails("no permit bars it", ELEMENT, () -> deck.barredBy(0));
        deck.openPermit(0b00000100);
        same("the unit that it sets", 'b', deck.reason(0));
        same("by this permit", 1, deck.barredBy(0));
        deck.closePermit(0);
        same("the other is closed", 'b', deck.reason(0));
        deck.closePermit(1);
        same("it is closed", '-', deck.reason(0));
    }

    /** "Open until it is closed": over hours and hand-overs it bars and keeps its units. */
    void permitsStayOpenOverHandOvers() {
        HandoverDeck deck = onDuty();
        Decks.addProcedure(deck, new int[][] {{0, 0, 1, 1}});
        deck.openPermit(0b00000110);
        deck.pass(12);
        isTrue("a tired crew", deck.isPermitOpen(0));
        Decks.change(deck, 1);
        isTrue("the next crew", deck.isPermitOpen(0));
        same("it bars", 'b', deck.reason(0));
        fails("its units are taken", UNSUPPORTED, () -> deck.openPermit(0b00000100));
        same("other units are not", 1, deck.openPermit(0b00001000));
        same("closed by the next crew", 0, deck.closePermit(0));
        same("it bars no more", '-', deck.reason(0));
        same("its units are free", 2, deck.openPermit(0b00000100));
        same("how many hand-overs its line has passed", 1, deck.passed(0));
    }

    /** "When a crew is handed over to, it comes on duty with hour 0 of its shift": when it is taken. */
    void crewsComeOnDutyWhenItIsTaken() {
        HandoverDeck deck = onDuty();
        deck.pass(11);
        deck.handOver(1);
        same("still the one before", 0, deck.onDuty());
        deck.pass(1);
        isTrue("which gets tired", deck.isTired());
        deck.take();
        isFalse("the other is not", deck.isTired());
        same("the shift of the one before ends now", 11, deck.restLeft(0));
        deck.pass(11);
        isFalse("11 hours of its shift", deck.isTired());
        deck.pass(1);
        isTrue("12 hours of its shift", deck.isTired());
    }

    /** A hand-over that is cancelled ends no shift, and begins none. */
    void crewsStayOnDutyWhenItIsCancelled() {
        HandoverDeck deck = onDuty();
        deck.pass(6);
        deck.handOver(1);
        deck.pass(5);
        deck.cancel();
        same("the crew stays", 0, deck.onDuty());
        same("it rests not", 0, deck.restLeft(0));
        same("nor the other", 0, deck.restLeft(1));
        isFalse("11 hours", deck.isTired());
        deck.pass(1);
        isTrue("12 hours, from its beginning on", deck.isTired());
        fails("it is on duty", STATE, () -> deck.begin(2));
        fails("it is the crew on duty", STATE, () -> deck.handOver(0));
    }

    /** "A hand-over goes on from its beginning until it is taken or cancelled": what waits for its end. */
    void handoversHoldUpWork() {
        for (int end = 0; end < 2; end++) {
            HandoverDeck deck = beforeWork();
            deck.handOver(1);
            sameWork(deck, false);
            deck.pass(3);
            sameWork(deck, false);
            if (end == 0) {
                Decks.acknowledgeAll(deck);
                deck.take();
            } else {
                deck.cancel();
            }
            sameWork(deck, true);
        }
    }

    /** A step of procedure 0 is done, and there is a next one; procedure 1 is done; permit 0 is open. */
    private static HandoverDeck beforeWork() {
        HandoverDeck deck = onDuty();
        Decks.addProcedure(deck, new int[][] {{7, 0, 1, 1}, {7, 0, 2, 1}});
        Decks.addProcedure(deck, new int[][] {{7, 0, 3, 1}});
        deck.step(0);
        deck.step(1);
        deck.openPermit(16);
        return deck;
    }

    private void sameWork(HandoverDeck deck, boolean allowed) {
        same("reason", allowed ? '-' : 'd', deck.reason(0));
        sameAllowed("step", allowed, () -> deck.step(0));
        sameAllowed("undo", allowed, () -> deck.undo(0));
        sameAllowed("reset", allowed, () -> deck.reset(1));
        sameAllowed("openPermit", allowed, () -> deck.openPermit(32));
        sameAllowed("closePermit", allowed, () -> deck.closePermit(0));
        fails("begin", STATE, () -> deck.begin(2));
        sameAllowed("handOver", allowed, () -> deck.handOver(2));
    }

    private void sameAllowed(String what, boolean allowed, Check.Call call) {
        isTrue(what + (allowed ? " is allowed" : " is refused"),
                allowed != Check.answerOf(call).equals("throws.IllegalStateException"));
    }

    /** What a hand-over does not hold up: notes, alarms, procedures that are added, hours. */
    void handoversLeaveTheRest() {
        HandoverDeck deck = withLineOfEachKind();
        deck.handOver(1);
        same("a note", 4, deck.note());
        same("an alarm", 5, deck.raise(0, 0, 3));
        same("its shelf", 2, deck.shelve(0, 0, 2));
        same("hours", 1, deck.pass(2));
        same("it is cleared", 5, deck.clear(0, 0));
        same("a note is closed", 4, deck.close(4));
        same("a procedure", 1, deck.addProcedure());
        same("a step", 0, deck.addStep(1, 0, 0, 0, 0));
        sameOpen("as before", deck, 0, 1, 2, 3);
        Decks.acknowledgeAll(deck);
        same("it is taken", 4, deck.take());
    }

    /** "Each line that is open, or is opened as long as it goes on, is to be acknowledged, unless it is closed." */
    void handoversNeedEachOpenLine() {
        HandoverDeck deck = withLineOfEachKind();
        deck.handOver(1);
        deck.note();
        deck.raise(0, 0, 1);
        deck.raise(0, 1, 1);
        deck.clear(0, 1);
        deck.close(1);
        fails("a line that was closed before", STATE, () -> deck.acknowledge(1));
        fails("a line that was closed at once", STATE, () -> deck.acknowledge(6));
        int[] lines = {4, 0, 5, 3, 2};
        for (int i = 0; i < lines.length; i++) {
            fails("one is left", UNSUPPORTED, deck::take);
            same("line " + lines[i], lines.length - 1 - i, deck.acknowledge(lines[i]));
        }
        deck.clear(7, 3);
        deck.note();
        fails("one is opened at last", UNSUPPORTED, deck::take);
        same("it is acknowledged", 0, deck.acknowledge(7));
        same("it is taken", 5, deck.take());
        int[] passed = {0, 0, 1, 1, 1, 1, 0, 1};
        for (int line = 0; line < passed.length; line++) {
            same("hand-overs of line " + line, passed[line], deck.passed(line));
        }
    }

    /** Each reason in turn, as what it is for comes and goes. */
    void reasonsComeAndGo() {
        HandoverDeck deck = new HandoverDeck();
        deck.addProcedure();
        same("no steps", 'e', deck.reason(0));
        deck.addStep(0, 0, 0, 1, 1);
        deck.addStep(0, 0, 1, 1, 2);
        same("no crew", 'd', deck.reason(0));
        deck.begin(0);
        same("none", '-', deck.reason(0));
        deck.openPermit(2);
        same("a permit", 'b', deck.reason(0));
        deck.pass(12);
        same("tired comes first", 't', deck.reason(0));
        deck.handOver(1);
        same("a hand-over comes first", 'd', deck.reason(0));
        deck.acknowledge(0);
        deck.take();
        same("the permit is open still", 'b', deck.reason(0));
        deck.closePermit(0);
        same("none again", '-', deck.reason(0));
        deck.step(0);
        same("the needed state", 'n', deck.reason(0));
        deck.openPermit(2);
        same("a permit comes first", 'b', deck.reason(0));
        deck.closePermit(1);
        Decks.addProcedure(deck, new int[][] {{7, 0, 0, 1}});
        deck.step(1);
        same("its state is there", '-', deck.reason(0));
        deck.step(0);
        deck.handOver(2);
        same("all steps are done comes first", 'e', deck.reason(0));
    }
}
