/** The boundary cases of promises 9 to 17. */
public final class ProcedureEdgesTest extends Edges {
    private ProcedureEdgesTest() {
        super("edges of procedures");
    }

    public static void main(String[] args) {
        new ProcedureEdgesTest().runAll(9, 17);
    }

    private static HandoverDeck withProcedures(int count) {
        HandoverDeck deck = new HandoverDeck();
        for (int procedure = 0; procedure < count; procedure++) {
            deck.addProcedure();
        }
        return deck;
    }

    /** Crew 0 is on duty; procedure 0 has so many steps that nothing hinders, each to another state of unit 3. */
    private static HandoverDeck withSteps(int count) {
        HandoverDeck deck = new HandoverDeck();
        deck.begin(0);
        deck.addProcedure();
        for (int number = 0; number < count; number++) {
            deck.addStep(0, 3, number % 4, 3, (number + 1) % 4);
        }
        return deck;
    }

    private static HandoverDeck withStepsDone(int count) {
        HandoverDeck deck = withSteps(count);
        takeAll(deck, count);
        return deck;
    }

    private static void takeAll(HandoverDeck deck, int count) {
        for (int number = 0; number < count; number++) {
            deck.step(0);
        }
    }

    private static void fillWithNotes(HandoverDeck deck, int lines) {
        int line = deck.note();
        while (line < lines - 1) {
            line = deck.note();
        }
    }

    /** Step 0 of procedure 0 set unit 0 to 1; the other two set it to 2 and to 1 again. */
    private static HandoverDeck beforeUndo() {
        HandoverDeck deck = new HandoverDeck();
        deck.begin(0);
        Decks.addProcedure(deck, new int[][] {{7, 0, 0, 1}});
        Decks.addProcedure(deck, new int[][] {{0, 1, 0, 2}});
        Decks.addProcedure(deck, new int[][] {{0, 2, 0, 1}});
        deck.step(0);
        return deck;
    }

    private static HandoverDeck inAnotherState() {
        HandoverDeck deck = beforeUndo();
        deck.step(1);
        return deck;
    }

    private static HandoverDeck barred() {
        HandoverDeck deck = beforeUndo();
        deck.openPermit(1);
        return deck;
    }

    private static HandoverDeck inHandOver(HandoverDeck deck) {
        deck.handOver(1);
        return deck;
    }

    private static HandoverDeck with60Lines(HandoverDeck deck) {
        fillWithNotes(deck, 60);
        return deck;
    }

    void promise9SixProcedures() {
        for (int number = 0; number < 6; number++) {
            same("number", number, withProcedures(number).addProcedure());
        }
        refused("the seventh", STATE, () -> withProcedures(6), HandoverDeck::addProcedure);
        refused("the seventh, all places taken", STATE, Decks::full, HandoverDeck::addProcedure);
    }

    void promise9WithoutSteps() {
        HandoverDeck deck = withProcedures(6);
        for (int number = 0; number < 6; number++) {
            same("done", 0, deck.done(number));
            same("reason", 'e', deck.reason(number));
        }
    }

    void promise9AtAnyTime() {
        same("without a crew", 3, Decks.unmanned().addProcedure());
        same("in a hand-over", 3, Decks.handingOver().addProcedure());
        same("with a tired crew", 3, Decks.tired().addProcedure());
    }

    void promise10NoSuchProcedure() {
        outside(0, -1, ELEMENT, HandoverDeck::new, (deck, number) -> deck.addStep(number, 0, 0, 0, 0));
        for (Decks.Maker maker : new Decks.Maker[] {Decks::unmanned, Decks::handingOver, Decks::tired}) {
            range(0, 2, ELEMENT, maker, (deck, number) -> deck.addStep(number, 7, 3, 7, 3));
        }
        range(0, 5, ELEMENT, () -> withProcedures(6), (deck, number) -> deck.addStep(number, 0, 0, 0, 0));
        outside(0, 5, ELEMENT, Decks::full, (deck, number) -> deck.addStep(number, 0, 0, 0, 0));
    }

    void promise10NoSuchUnit() {
        for (Decks.Maker maker : new Decks.Maker[] {Decks::unmanned, Decks::busy, Decks::handingOver}) {
            range(0, 7, INDEX, maker, (deck, unit) -> deck.addStep(0, unit, 0, 0, 0));
            range(0, 7, INDEX, maker, (deck, unit) -> deck.addStep(2, 0, 0, unit, 0));
        }
    }

    void promise10NoSuchState() {
        for (Decks.Maker maker : new Decks.Maker[] {Decks::unmanned, Decks::busy, Decks::handingOver}) {
            range(0, 3, ARGUMENT, maker, (deck, state) -> deck.addStep(0, 0, state, 0, 0));
            range(0, 3, ARGUMENT, maker, (deck, state) -> deck.addStep(2, 0, 0, 0, state));
        }
    }

    void promise10EightSteps() {
        for (int number = 0; number < 8; number++) {
            same("number", number, withSteps(number).addStep(0, 0, 0, 0, 0));
        }
        refused("the ninth", STATE, () -> withSteps(8), deck -> deck.addStep(0, 0, 0, 0, 0));
        refused("the ninth, all are done", STATE, () -> withStepsDone(8), deck -> deck.addStep(0, 0, 0, 0, 0));
        for (int procedure = 0; procedure < 6; procedure++) {
            int number = procedure;
            refused("all places taken", STATE, Decks::full, deck -> deck.addStep(number, 0, 0, 0, 0));
        }
    }

    void promise10EachPlaceIsOfItsOwn() {
        HandoverDeck deck = withProcedures(6);
        for (int number = 0; number < 8; number++) {
            for (int procedure = 0; procedure < 6; procedure++) {
                same("number", number, deck.addStep(procedure, number, 0, number, procedure % 4));
            }
        }
        deck.begin(0);
        for (int number = 0; number < 8; number++) {
            same("step", number, deck.step(3));
            same("what it set", 3, deck.state(number));
        }
        same("of another procedure", 'n', deck.reason(4));
    }

    void promise10LeastAndGreatestOfAll() {
        HandoverDeck deck = withProcedures(1);
        deck.begin(0);
        same("least", 0, deck.addStep(0, 0, 0, 0, 0));
        same("to the greatest", 1, deck.addStep(0, 0, 0, 7, 3));
        same("greatest", 2, deck.addStep(0, 7, 3, 7, 3));
        takeAll(deck, 3);
        same("the state of unit 7", 3, deck.state(7));
        same("the state of unit 0", 0, deck.state(0));
    }

    void promise10ProcedureBeforeUnitAndState() {
        refused("unit needed", ELEMENT, Decks::unmanned, deck -> deck.addStep(3, 8, 0, 0, 0));
        refused("unit set", ELEMENT, Decks::unmanned, deck -> deck.addStep(-1, 0, 0, -1, 0));
        refused("state needed", ELEMENT, Decks::unmanned, deck -> deck.addStep(3, 0, 4, 0, 0));
        refused("state set", ELEMENT, Decks::unmanned, deck -> deck.addStep(-1, 0, 0, 0, -1));
        refused("all", ELEMENT, HandoverDeck::new, deck -> deck.addStep(0, 8, 4, 8, 4));
    }

    void promise10UnitBeforeState() {
        refused("needed, its state", INDEX, Decks::unmanned, deck -> deck.addStep(0, 8, 4, 0, 0));
        refused("needed, the other state", INDEX, Decks::unmanned, deck -> deck.addStep(0, -1, 0, 0, 4));
        refused("set, its state", INDEX, Decks::unmanned, deck -> deck.addStep(0, 0, 0, 8, -1));
        refused("set, the other state", INDEX, Decks::unmanned, deck -> deck.addStep(0, 0, 4, -1, 0));
    }

    void promise10UnitBeforeEightSteps() {
        refused("needed", INDEX, Decks::full, deck -> deck.addStep(0, 8, 0, 0, 0));
        refused("set", INDEX, Decks::full, deck -> deck.addStep(5, 0, 0, -1, 0));
    }

    void promise10StateBeforeEightSteps() {
        refused("needed", ARGUMENT, Decks::full, deck -> deck.addStep(0, 0, 4, 0, 0));
        refused("set", ARGUMENT, Decks::full, deck -> deck.addStep(5, 0, 0, 0, -1));
    }

    void promise11NoSuchProcedure() {
        outside(0, -1, ELEMENT, HandoverDeck::new, HandoverDeck::done);
        for (Decks.Maker maker : new Decks.Maker[] {Decks::unmanned, Decks::busy, Decks::handingOver, Decks::tired}) {
            range(0, 2, ELEMENT, maker, HandoverDeck::done);
        }
        range(0, 5, ELEMENT, Decks::full, HandoverDeck::done);
    }

    void promise11NoneToAll() {
        HandoverDeck deck = withSteps(8);
        for (int number = 0; number < 8; number++) {
            same("done", number, deck.done(0));
            deck.step(0);
        }
        for (int number = 8; number > 0; number--) {
            same("done, then undone", number, deck.done(0));
            deck.undo(0);
        }
        same("all are undone", 0, deck.done(0));
        same("without steps", 0, withProcedures(1).done(0));
    }

    void promise12NoSuchProcedure() {
        outside(0, -1, ELEMENT, HandoverDeck::new, HandoverDeck::reason);
        for (Decks.Maker maker : new Decks.Maker[] {Decks::unmanned, Decks::busy, Decks::handingOver, Decks::tired}) {
            range(0, 2, ELEMENT, maker, HandoverDeck::reason);
        }
        range(0, 5, ELEMENT, Decks::full, HandoverDeck::reason);
    }

    void promise12AllStepsAreDone() {
        same("no steps", 'e', withProcedures(1).reason(0));
        same("none of 1 is done", '-', withSteps(1).reason(0));
        same("1 of 1 is done", 'e', withStepsDone(1).reason(0));
        HandoverDeck deck = withSteps(8);
        takeAll(deck, 7);
        same("7 of 8 are done", '-', deck.reason(0));
        deck.step(0);
        same("8 of 8 are done", 'e', deck.reason(0));
    }

    void promise12TiredAfter12Hours() {
        HandoverDeck deck = withSteps(1);
        same("hour 0 of the shift", '-', deck.reason(0));
        deck.pass(11);
        same("11 hours", '-', deck.reason(0));
        deck.pass(1);
        same("12 hours", 't', deck.reason(0));
        deck.pass(48);
        same("60 hours", 't', deck.reason(0));
        Decks.change(deck, 1);
        same("another crew", '-', deck.reason(0));
    }

    /** Which reasons apply: 8 is 'd', 4 is 't', 2 is 'b', 1 is 'n'. */
    private static HandoverDeck withReasons(int set) {
        HandoverDeck deck = new HandoverDeck();
        deck.begin(0);
        Decks.addProcedure(deck, new int[][] {{1, set & 1, 2, 1}});
        Decks.addProcedure(deck, new int[][] {});
        deck.openPermit((set & 2) != 0 ? 0b00000100 : 0b11111011);
        deck.pass((set & 4) != 0 ? 12 : 11);
        if ((set & 8) != 0) {
            deck.handOver(1);
        }
        return deck;
    }

    void promise12FirstThatApplies() {
        for (int set = 0; set < 16; set++) {
            char due = set >= 8 ? 'd' : set >= 4 ? 't' : set >= 2 ? 'b' : set == 1 ? 'n' : '-';
            same("set " + set, due, withReasons(set).reason(0));
            same("set " + set + ", without steps", 'e', withReasons(set).reason(1));
        }
    }

    void promise12NoCrew() {
        HandoverDeck deck = withProcedures(1);
        same("without steps", 'e', deck.reason(0));
        deck.addStep(0, 0, 0, 0, 0);
        same("nothing else", 'd', deck.reason(0));
        deck.pass(48);
        same("no crew is tired", 'd', deck.reason(0));
        deck.addProcedure();
        deck.addStep(1, 0, 1, 0, 0);
        same("before the other state", 'd', deck.reason(1));
    }

    void promise12EachNeededState() {
        for (int needed = 0; needed < 4; needed++) {
            for (int set = 0; set < 4; set++) {
                HandoverDeck deck = new HandoverDeck();
                deck.begin(0);
                Decks.addProcedure(deck, new int[][] {{0, 0, 7, set}, {7, needed, 1, 1}});
                deck.step(0);
                same(needed + " is needed, " + set + " was set", needed == set ? '-' : 'n', deck.reason(0));
            }
        }
    }

    void promise13NoSuchProcedure() {
        outside(0, -1, ELEMENT, HandoverDeck::new, HandoverDeck::barredBy);
        outside(0, 2, ELEMENT, Decks::busy, HandoverDeck::barredBy);
        outside(0, 5, ELEMENT, Decks::full, HandoverDeck::barredBy);
        range(0, 5, ELEMENT, ProcedureEdgesTest::allBarred, HandoverDeck::barredBy);
    }

    private static HandoverDeck allBarred() {
        HandoverDeck deck = withProcedures(6);
        deck.begin(0);
        for (int procedure = 0; procedure < 6; procedure++) {
            deck.addStep(procedure, 0, 0, procedure, 0);
        }
        deck.openPermit(255);
        return deck;
    }

    void promise13AllStepsAreDone() {
        refused("no steps", ELEMENT, ProcedureEdgesTest::withoutStepsBarred, deck -> deck.barredBy(0));
        refused("8 of 8", ELEMENT, ProcedureEdgesTest::doneAndBarred, deck -> deck.barredBy(0));
        HandoverDeck deck = withSteps(8);
        takeAll(deck, 7);
        deck.openPermit(255);
        same("7 of 8", 0, deck.barredBy(0));
    }

    private static HandoverDeck withoutStepsBarred() {
        HandoverDeck deck = withSteps(0);
        deck.openPermit(255);
        return deck;
    }

    private static HandoverDeck doneAndBarred() {
        HandoverDeck deck = withStepsDone(8);
        deck.openPermit(255);
        return deck;
    }

    void promise13NoOpenPermitBars() {
        refused("no permits", ELEMENT, () -> withSteps(1), deck -> deck.barredBy(0));
        refused("closed permits", ELEMENT, Decks::full, deck -> deck.barredBy(0));
        for (int unit = 0; unit < 8; unit++) {
            int others = 255 - (1 << unit);
            int set = unit;
            refused("all units but " + unit, ELEMENT, () -> barredUnit(set, others), deck -> deck.barredBy(0));
            same("unit " + unit + " alone", 0, barredUnit(unit, 1 << unit).barredBy(0));
        }
    }

    private static HandoverDeck barredUnit(int unit, int units) {
        HandoverDeck deck = new HandoverDeck();
        deck.begin(0);
        Decks.addProcedure(deck, new int[][] {{(unit + 1) % 8, 0, unit, 0}});
        deck.openPermit(units);
        return deck;
    }

    void promise13FirstAndLastPermit() {
        HandoverDeck deck = withSteps(1);
        for (int permit = 0; permit < 8; permit++) {
            deck.openPermit(1 << 3);
            same("permit", permit, deck.barredBy(0));
            deck.closePermit(permit);
        }
    }

    void promise14NoSuchProcedure() {
        outside(0, -1, ELEMENT, HandoverDeck::new, HandoverDeck::step);
        for (Decks.Maker maker : new Decks.Maker[] {Decks::unmanned, Decks::busy, Decks::handingOver, Decks::tired}) {
            outside(0, 2, ELEMENT, maker, HandoverDeck::step);
        }
        range(0, 5, ELEMENT, Decks::full, HandoverDeck::step);
    }

    void promise14EachReason() {
        for (int set = 1; set < 16; set++) {
            int reasons = set;
            refused("set " + set, STATE, () -> withReasons(reasons), deck -> deck.step(0));
        }
        same("none", 0, withReasons(0).step(0));
        refused("no steps", STATE, () -> withSteps(0), deck -> deck.step(0));
        refused("all of 8 are done", STATE, () -> withStepsDone(8), deck -> deck.step(0));
        refused("no crew", STATE, Decks::unmanned, deck -> deck.step(0));
    }

    void promise14FirstAndLastStep() {
        HandoverDeck deck = withSteps(8);
        for (int number = 0; number < 8; number++) {
            same("number", number, deck.step(0));
            same("the state", (number + 1) % 4, deck.state(3));
        }
    }

    void promise14TiredAfter12Hours() {
        HandoverDeck deck = withSteps(1);
        deck.pass(11);
        same("11 hours", 0, deck.step(0));
        refused("12 hours", STATE, ProcedureEdgesTest::tiredBeforeStep, tired -> tired.step(0));
    }

    private static HandoverDeck tiredBeforeStep() {
        HandoverDeck deck = withSteps(1);
        deck.pass(12);
        return deck;
    }

    void promise14ClosesTheLineOfItsOwn() {
        HandoverDeck deck = withStepsDone(8);
        for (int number = 7; number >= 0; number--) {
            deck.undo(0);
        }
        for (int number = 0; number < 8; number++) {
            same("open lines", 8 - number, deck.openLines());
            deck.step(0);
        }
        same("none is open", 0, deck.openLines());
    }

    void promise14With60Lines() {
        HandoverDeck deck = withSteps(1);
        fillWithNotes(deck, 60);
        same("a step opens no line", 0, deck.step(0));
        same("open lines", 60, deck.openLines());
    }

    void promise15NoSuchProcedure() {
        outside(0, -1, ELEMENT, HandoverDeck::new, HandoverDeck::undo);
        for (Decks.Maker maker : new Decks.Maker[] {Decks::unmanned, Decks::busy, Decks::handingOver, Decks::tired}) {
            outside(0, 2, ELEMENT, maker, HandoverDeck::undo);
        }
        outside(0, 5, ELEMENT, Decks::full, HandoverDeck::undo);
        range(0, 5, ELEMENT, ProcedureEdgesTest::sixDone, HandoverDeck::undo);
    }

    private static HandoverDeck sixDone() {
        HandoverDeck deck = withProcedures(6);
        deck.begin(0);
        for (int procedure = 0; procedure < 6; procedure++) {
            deck.addStep(procedure, 7, 0, procedure, 1);
            deck.step(procedure);
        }
        return deck;
    }

    void promise15NoneIsDone() {
        refused("no steps", STATE, () -> withSteps(0), deck -> deck.undo(0));
        refused("8 steps", STATE, () -> withSteps(8), deck -> deck.undo(0));
        refused("of another procedure", STATE, ProcedureEdgesTest::beforeUndo, deck -> deck.undo(1));
        refused("the only one is undone", STATE, ProcedureEdgesTest::undone, deck -> deck.undo(0));
        refused("reset", STATE, ProcedureEdgesTest::afterReset, deck -> deck.undo(0));
    }

    private static HandoverDeck undone() {
        HandoverDeck deck = beforeUndo();
        deck.undo(0);
        return deck;
    }

    private static HandoverDeck afterReset() {
        HandoverDeck deck = withStepsDone(8);
        deck.reset(0);
        return deck;
    }

    void promise15NoCrew() {
        refused("no crew", STATE, Decks::unmanned, deck -> deck.undo(0));
    }

    void promise15HandOver() {
        refused("a hand-over", STATE, () -> inHandOver(beforeUndo()), deck -> deck.undo(0));
        HandoverDeck deck = inHandOver(beforeUndo());
        deck.cancel();
        same("cancelled", 0, deck.undo(0));
        HandoverDeck taken = inHandOver(beforeUndo());
        taken.take();
        same("taken", 0, taken.undo(0));
    }

    void promise15SixtyLines() {
        HandoverDeck deck = beforeUndo();
        fillWithNotes(deck, 59);
        same("the last line", 59, deck.undo(0));
        same("its kind", 's', deck.kindOf(59));
        refused("60 lines", STATE, () -> with60Lines(beforeUndo()), full -> full.undo(0));
        refused("all places taken", STATE, Decks::full, full -> full.undo(5));
    }

    void promise15InAnotherState() {
        refused("set to another", UNSUPPORTED, ProcedureEdgesTest::inAnotherState, deck -> deck.undo(0));
        HandoverDeck deck = inAnotherState();
        deck.step(2);
        same("set to the same again", 0, deck.undo(0));
        same("the state that was noted", 0, deck.state(0));
        refused("set back below", UNSUPPORTED, ProcedureEdgesTest::setBackBelow, below -> below.undo(1));
    }

    /** Step 0 of procedure 1 set unit 0 to 2; undoing that of procedure 2 and of 0 made it 0. */
    private static HandoverDeck setBackBelow() {
        HandoverDeck deck = inAnotherState();
        deck.step(2);
        deck.undo(0);
        return deck;
    }

    void promise15Barred() {
        refused("by a permit", UNSUPPORTED, ProcedureEdgesTest::barred, deck -> deck.undo(0));
        HandoverDeck closed = barred();
        closed.closePermit(0);
        same("by a closed permit", 1, closed.undo(0));
        HandoverDeck others = beforeUndo();
        others.openPermit(254);
        same("all other units", 1, others.undo(0));
    }

    void promise15EachUnitBarred() {
        for (int unit = 0; unit < 8; unit++) {
            int set = unit;
            refused("unit " + unit, UNSUPPORTED, () -> doneAndBarredUnit(set, 1 << set), deck -> deck.undo(0));
            same("not unit " + unit, 1, doneAndBarredUnit(unit, 255 - (1 << unit)).undo(0));
        }
    }

    private static HandoverDeck doneAndBarredUnit(int unit, int units) {
        HandoverDeck deck = new HandoverDeck();
        deck.begin(0);
        Decks.addProcedure(deck, new int[][] {{unit, 0, unit, 3}});
        deck.step(0);
        deck.openPermit(units);
        return deck;
    }

    void promise15FirstAndLastStep() {
        HandoverDeck deck = withStepsDone(8);
        for (int number = 7; number >= 0; number--) {
            same("line", 7 - number, deck.undo(0));
            same("the state that was noted", number % 4, deck.state(3));
            same("done", number, deck.done(0));
        }
    }

    void promise15ProcedureBeforeState() {
        refused("no crew", ELEMENT, Decks::unmanned, deck -> deck.undo(3));
        refused("a hand-over", ELEMENT, Decks::handingOver, deck -> deck.undo(3));
        refused("60 lines", ELEMENT, Decks::full, deck -> deck.undo(6));
    }

    void promise15HandOverBeforeUnsupported() {
        refused("another state", STATE, () -> inHandOver(inAnotherState()), deck -> deck.undo(0));
        refused("barred", STATE, () -> inHandOver(barred()), deck -> deck.undo(0));
    }

    void promise15SixtyLinesBeforeUnsupported() {
        refused("another state", STATE, () -> with60Lines(inAnotherState()), deck -> deck.undo(0));
        refused("barred", STATE, () -> with60Lines(barred()), deck -> deck.undo(0));
    }

    void promise15NoneDoneBeforeBarred() {
        refused("its first step is barred", STATE, ProcedureEdgesTest::barred, deck -> deck.undo(1));
    }

    void promise15WithTiredCrew() {
        HandoverDeck deck = beforeUndo();
        deck.pass(12);
        same("a tired crew", 0, deck.undo(0));
    }

    void promise16NoSuchProcedure() {
        outside(0, -1, ELEMENT, HandoverDeck::new, HandoverDeck::reset);
        range(0, 2, ELEMENT, Decks::busy, HandoverDeck::reset);
        range(0, 2, ELEMENT, Decks::tired, HandoverDeck::reset);
        range(0, 5, ELEMENT, Decks::full, HandoverDeck::reset);
    }

    void promise16NoCrew() {
        for (int procedure = 0; procedure < 3; procedure++) {
            int number = procedure;
            refused("no crew", STATE, Decks::unmanned, deck -> deck.reset(number));
        }
    }

    void promise16HandOver() {
        for (int procedure = 0; procedure < 3; procedure++) {
            int number = procedure;
            refused("a hand-over", STATE, Decks::handingOver, deck -> deck.reset(number));
        }
        HandoverDeck deck = Decks.handingOver();
        deck.cancel();
        same("cancelled", 1, deck.reset(0));
    }

    void promise16ProcedureBeforeState() {
        outside(0, 2, ELEMENT, Decks::unmanned, HandoverDeck::reset);
        outside(0, 2, ELEMENT, Decks::handingOver, HandoverDeck::reset);
    }

    void promise16NoneAndAllLines() {
        same("no steps", 0, withSteps(0).reset(0));
        same("none is done", 0, withSteps(8).reset(0));
        same("all are done", 0, withStepsDone(8).reset(0));
        HandoverDeck deck = withStepsDone(8);
        for (int number = 0; number < 8; number++) {
            deck.undo(0);
        }
        same("all are undone", 8, deck.reset(0));
        same("no line is open", 0, deck.openLines());
        same("again", 0, deck.reset(0));
    }

    void promise16LinesOfOthersStay() {
        HandoverDeck deck = sixDone();
        for (int procedure = 0; procedure < 6; procedure++) {
            deck.undo(procedure);
        }
        for (int procedure = 0; procedure < 6; procedure++) {
            same("its line", 1, deck.reset(procedure));
            same("open lines", 5 - procedure, deck.openLines());
        }
    }

    void promise16With60Lines() {
        HandoverDeck deck = Decks.full();
        int before = deck.openLines();
        same("a line is closed", 1, deck.reset(5));
        same("open lines", before - 1, deck.openLines());
        same("done", 0, deck.done(5));
    }

    void promise17NoSteps() {
        refused("no procedures", ELEMENT, HandoverDeck::new, HandoverDeck::drill);
        for (int count = 1; count <= 6; count++) {
            int procedures = count;
            refused(count + " procedures", ELEMENT, () -> withProcedures(procedures), HandoverDeck::drill);
        }
    }

    void promise17FirstAndLastPlace() {
        for (int procedure = 0; procedure < 6; procedure++) {
            HandoverDeck deck = withProcedures(6);
            deck.begin(0);
            for (int number = 0; number < 8; number++) {
                deck.addStep(procedure, 0, 0, 0, 0);
                same("the only procedure with steps", 8 * procedure, deck.drill());
            }
            for (int number = 0; number < 8; number++) {
                same("never taken", 8 * procedure + number, deck.drill());
                deck.step(procedure);
            }
            same("all were taken in one hour", 8 * procedure, deck.drill());
        }
    }

    void promise17NeverTakenComesFirst() {
        HandoverDeck deck = withProcedures(6);
        deck.begin(0);
        deck.addStep(0, 0, 0, 0, 0);
        deck.step(0);
        for (int call = 0; call < 300; call++) {
            deck.pass(48);
        }
        same("the only one", 0, deck.drill());
        deck.addStep(5, 0, 0, 0, 0);
        same("a new one", 40, deck.drill());
    }

    void promise17LongestTime() {
        HandoverDeck deck = new HandoverDeck();
        deck.begin(0);
        Decks.addProcedure(deck, new int[][] {{7, 0, 0, 0}, {7, 0, 1, 0}});
        takeAll(deck, 1);
        deck.pass(1);
        takeAll(deck, 1);
        same("an hour longer", 0, deck.drill());
        deck.reset(0);
        same("reset does not count", 0, deck.drill());
        takeAll(deck, 1);
        same("taken in the same hour", 0, deck.drill());
        deck.reset(0);
        deck.pass(1);
        takeAll(deck, 1);
        same("the other is the longest now", 1, deck.drill());
    }

    void promise17OfOneHour() {
        HandoverDeck deck = sixDone();
        same("the lowest procedure", 0, deck.drill());
        for (int procedure = 0; procedure < 5; procedure++) {
            deck.undo(procedure);
            same("undone does not count", 0, deck.drill());
        }
        deck.pass(1);
        deck.step(0);
        same("the lowest of the others", 8, deck.drill());
        deck.step(1);
        same("the lowest of those", 16, deck.drill());
    }
}
