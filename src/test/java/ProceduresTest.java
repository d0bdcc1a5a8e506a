import java.util.NoSuchElementException;

/** Promises 9 to 17: procedures, their steps, and drills. */
public final class ProceduresTest {
    private static final Check check = new Check("procedures");
    private static final int MIN = Integer.MIN_VALUE;
    private static final int MAX = Integer.MAX_VALUE;

    public static void main(String[] args) {
        promise9AddProcedure();
        promise10AddStep();
        promise10AddStepOrder();
        promise11Done();
        promise12Reason();
        promise12ReasonOrder();
        promise13BarredBy();
        promise14Step();
        promise14StepThrows();
        promise15Undo();
        promise15UndoUnsupported();
        promise15UndoNotNow();
        promise15UndoWithoutRoom();
        promise16Reset();
        promise16ResetThrows();
        promise17Drill();
        promise17DrillKeepsTaking();
        check.end();
    }

    /** A deck with crew 0 on duty and one procedure: unit 0 to 1, unit 1 to 2, unit 2 to 3, each in a row. */
    private static HandoverDeck deckInRow() {
        HandoverDeck deck = new HandoverDeck();
        deck.begin(0);
        deck.addProcedure();
        deck.addStep(0, 7, 0, 0, 1);
        deck.addStep(0, 0, 1, 1, 2);
        deck.addStep(0, 1, 2, 2, 3);
        return deck;
    }

    private static void promise9AddProcedure() {
        HandoverDeck deck = new HandoverDeck();
        for (int number = 0; number < 6; number++) {
            check.same("p9 number", number, deck.addProcedure());
            check.same("p9 without steps", 0, deck.done(number));
            check.same("p9 without steps, all are done", 'e', deck.reason(number));
        }
        check.fails("p9 6 procedures", IllegalStateException.class, () -> deck.addProcedure());
        check.fails("p9 no seventh", NoSuchElementException.class, () -> deck.done(6));
    }

    private static void promise10AddStep() {
        HandoverDeck deck = new HandoverDeck();
        deck.begin(0);
        for (int procedure = 0; procedure < 6; procedure++) {
            deck.addProcedure();
        }
        for (int number = 0; number < 8; number++) {
            check.same("p10 number", number, deck.addStep(5, number, 0, 7 - number, 0));
        }
        check.fails("p10 8 steps", IllegalStateException.class, () -> deck.addStep(5, 0, 0, 0, 0));
        check.same("p10 another procedure", 0, deck.addStep(4, 7, 0, 7, 3));
        check.same("p10 the step sets", 0, deck.step(4));
        check.same("p10 the new state", 3, deck.state(7));
        check.same("p10 all done", 'e', deck.reason(4));
        check.same("p10 behind a done step", 1, deck.addStep(4, 7, 2, 0, 1));
        check.same("p10 not all done any more", 'n', deck.reason(4));
        check.same("p10 a step needs its state", 2, deck.addStep(4, 0, 3, 0, 1));
        check.same("p10 other procedures have no steps", 'e', deck.reason(3));
    }

    private static void promise10AddStepOrder() {
        HandoverDeck deck = new HandoverDeck();
        deck.addProcedure();
        for (int wrong : new int[] {-1, 1, 6, MIN, MAX}) {
            check.fails("p10 procedure " + wrong, NoSuchElementException.class, () -> deck.addStep(wrong, 8, 4, 8, 4));
        }
        for (int wrong : new int[] {-1, 8, MIN, MAX}) {
            check.fails("p10 needed " + wrong, IndexOutOfBoundsException.class, () -> deck.addStep(0, wrong, 4, 0, 4));
            check.fails("p10 unit " + wrong, IndexOutOfBoundsException.class, () -> deck.addStep(0, 0, 4, wrong, 4));
        }
        for (int wrong : new int[] {-1, 4, MIN, MAX}) {
            check.fails("p10 needed state " + wrong, IllegalArgumentException.class,
                    () -> deck.addStep(0, 0, wrong, 0, 0));
            check.fails("p10 new state " + wrong, IllegalArgumentException.class,
                    () -> deck.addStep(0, 0, 0, 0, wrong));
        }
        check.fails("p10 a throw adds none", NoSuchElementException.class, () -> deck.drill());
        for (int number = 0; number < 8; number++) {
            deck.addStep(0, 0, 3, 0, 3);
        }
        check.fails("p10 8 steps, the state first", IllegalArgumentException.class, () -> deck.addStep(0, 0, 0, 0, 4));
        check.fails("p10 8 steps, the unit first", IndexOutOfBoundsException.class, () -> deck.addStep(0, 0, 0, 8, 0));
    }

    private static void promise11Done() {
        HandoverDeck deck = deckInRow();
        check.same("p11 none", 0, deck.done(0));
        deck.step(0);
        deck.step(0);
        check.same("p11 two", 2, deck.done(0));
        deck.undo(0);
        check.same("p11 one undone", 1, deck.done(0));
        deck.reset(0);
        check.same("p11 reset", 0, deck.done(0));
        for (int wrong : new int[] {-1, 1, 6, MIN, MAX}) {
            check.fails("p11 procedure " + wrong, NoSuchElementException.class, () -> deck.done(wrong));
        }
    }

    private static void promise12Reason() {
        HandoverDeck deck = new HandoverDeck();
        deck.addProcedure();
        deck.addStep(0, 3, 0, 4, 1);
        deck.addStep(0, 4, 2, 5, 1);
        check.same("p12 no crew", 'd', deck.reason(0));
        deck.begin(1);
        check.same("p12 none", '-', deck.reason(0));
        deck.handOver(2);
        check.same("p12 a hand-over goes on", 'd', deck.reason(0));
        deck.cancel();
        check.same("p12 cancelled", '-', deck.reason(0));
        deck.openPermit(1 << 3);
        check.same("p12 a permit on the needed unit does not bar", '-', deck.reason(0));
        deck.openPermit(1 << 4);
        check.same("p12 barred", 'b', deck.reason(0));
        deck.closePermit(1);
        deck.step(0);
        check.same("p12 another state", 'n', deck.reason(0));
        deck.pass(11);
        check.same("p12 not yet tired", 'n', deck.reason(0));
        deck.pass(1);
        check.same("p12 tired", 't', deck.reason(0));
        for (int wrong : new int[] {-1, 1, 6, MIN, MAX}) {
            check.fails("p12 procedure " + wrong, NoSuchElementException.class, () -> deck.reason(wrong));
        }
    }

    private static void promise12ReasonOrder() {
        HandoverDeck deck = new HandoverDeck();
        deck.addProcedure();
        check.same("p12 e before d", 'e', deck.reason(0));
        deck.addStep(0, 0, 1, 2, 1);
        deck.begin(0);
        deck.openPermit(4);
        check.same("p12 b before n", 'b', deck.reason(0));
        deck.pass(12);
        check.same("p12 t before b", 't', deck.reason(0));
        deck.handOver(1);
        check.same("p12 d before t", 'd', deck.reason(0));
    }

    private static void promise13BarredBy() {
        HandoverDeck deck = deckInRow();
        check.fails("p13 none", NoSuchElementException.class, () -> deck.barredBy(0));
        deck.openPermit(0b10000010);
        check.fails("p13 it bars the later step only", NoSuchElementException.class, () -> deck.barredBy(0));
        deck.openPermit(0b00010001);
        check.same("p13 barred", 1, deck.barredBy(0));
        deck.closePermit(1);
        check.fails("p13 closed", NoSuchElementException.class, () -> deck.barredBy(0));
        deck.openPermit(1);
        check.same("p13 the open one, not the closed one", 2, deck.barredBy(0));
        deck.closePermit(2);
        deck.step(0);
        check.same("p13 the next step", 0, deck.barredBy(0));
        deck.handOver(1);
        check.same("p13 whatever else hinders it", 0, deck.barredBy(0));
        deck.cancel();
        deck.closePermit(0);
        deck.step(0);
        deck.step(0);
        deck.openPermit(255);
        check.fails("p13 all steps are done", NoSuchElementException.class, () -> deck.barredBy(0));
        for (int wrong : new int[] {-1, 1, 6, MIN, MAX}) {
            check.fails("p13 procedure " + wrong, NoSuchElementException.class, () -> deck.barredBy(wrong));
        }
    }

    private static void promise14Step() {
        HandoverDeck deck = deckInRow();
        check.same("p14 first", 0, deck.step(0));
        check.same("p14 sets", 1, deck.state(0));
        check.same("p14 done", 1, deck.done(0));
        check.same("p14 second", 1, deck.step(0));
        check.same("p14 sets the second", 2, deck.state(1));
        check.same("p14 opens no line", 0, deck.openLines());
        check.same("p14 undone", 0, deck.undo(0));
        check.same("p14 the other undone", 1, deck.undo(0));
        check.same("p14 taken again", 0, deck.step(0));
        check.same("p14 its line is closed", 1, deck.openLines());
        check.same("p14 the line of the other is open", 0, deck.openAt(0));
        check.same("p14 the other taken again", 1, deck.step(0));
        check.same("p14 all lines are closed", 0, deck.openLines());
        check.same("p14 third", 2, deck.step(0));
        check.isTrue("p14 sound", deck.isSound());
    }

    private static void promise14StepThrows() {
        HandoverDeck deck = new HandoverDeck();
        for (int wrong : new int[] {-1, 0, 6, MIN, MAX}) {
            check.fails("p14 procedure " + wrong, NoSuchElementException.class, () -> deck.step(wrong));
        }
        deck.addProcedure();
        check.fails("p14 e", IllegalStateException.class, () -> deck.step(0));
        deck.addStep(0, 1, 0, 2, 3);
        deck.addStep(0, 1, 1, 3, 3);
        check.fails("p14 d", IllegalStateException.class, () -> deck.step(0));
        deck.begin(0);
        deck.openPermit(4);
        check.fails("p14 b", IllegalStateException.class, () -> deck.step(0));
        deck.closePermit(0);
        deck.step(0);
        check.fails("p14 n", IllegalStateException.class, () -> deck.step(0));
        check.same("p14 a throw takes none", 1, deck.done(0));
        check.same("p14 a throw sets none", 0, deck.state(3));
        deck.reset(0);
        deck.pass(12);
        check.fails("p14 t", IllegalStateException.class, () -> deck.step(0));
        deck.handOver(1);
        check.fails("p14 in a hand-over", IllegalStateException.class, () -> deck.step(0));
    }

    private static void promise15Undo() {
        HandoverDeck deck = deckInRow();
        deck.addProcedure();
        deck.addStep(1, 0, 1, 0, 3);
        deck.addStep(1, 0, 3, 0, 3);
        deck.step(0);
        deck.step(1);
        deck.step(1);
        deck.note();
        check.same("p15 the line", 1, deck.undo(1));
        check.same("p15 its kind", 's', deck.kindOf(1));
        check.same("p15 the noted state", 3, deck.state(0));
        check.same("p15 done no more", 1, deck.done(1));
        check.same("p15 the next line", 2, deck.undo(1));
        check.same("p15 the noted state of the first", 1, deck.state(0));
        check.same("p15 the other procedure", 3, deck.undo(0));
        check.same("p15 back to the start", 0, deck.state(0));
        check.same("p15 the lines are open", 4, deck.openLines());
        check.fails("p15 none is done", IllegalStateException.class, () -> deck.undo(0));
        check.fails("p15 none is done of a later procedure", IllegalStateException.class, () -> deck.undo(1));
        for (int wrong : new int[] {-1, 2, 6, MIN, MAX}) {
            check.fails("p15 procedure " + wrong, NoSuchElementException.class, () -> deck.undo(wrong));
        }
    }

    private static void promise15UndoUnsupported() {
        HandoverDeck deck = deckInRow();
        deck.addProcedure();
        deck.addStep(1, 0, 1, 0, 2);
        deck.step(0);
        deck.step(1);
        check.fails("p15 in another state", UnsupportedOperationException.class, () -> deck.undo(0));
        check.same("p15 a throw opens no line", 0, deck.openLines());
        deck.undo(1);
        deck.openPermit(1);
        check.fails("p15 barred", UnsupportedOperationException.class, () -> deck.undo(0));
        check.same("p15 a throw undoes none", 1, deck.done(0));
        deck.closePermit(0);
        deck.openPermit(128);
        check.same("p15 a permit on other units", 3, deck.undo(0));
    }

    private static void promise15UndoNotNow() {
        HandoverDeck deck = deckInRow();
        deck.step(0);
        deck.openPermit(1);
        deck.handOver(1);
        check.fails("p15 in a hand-over, before barred", IllegalStateException.class, () -> deck.undo(0));
        deck.cancel();
        deck.closePermit(0);
        deck.pass(12);
        check.same("p15 a tired crew can undo", 1, deck.undo(0));
        HandoverDeck empty = new HandoverDeck();
        empty.addProcedure();
        check.fails("p15 no crew", IllegalStateException.class, () -> empty.undo(0));
    }

    private static void promise15UndoWithoutRoom() {
        HandoverDeck deck = deckInRow();
        deck.step(0);
        deck.step(0);
        for (int line = 0; line < 58; line++) {
            deck.note();
            deck.close(line);
        }
        deck.openPermit(1);
        check.same("p15 line 59", 59, deck.undo(0));
        check.fails("p15 60 lines, before barred", IllegalStateException.class, () -> deck.undo(0));
        check.same("p15 a throw keeps the state", 1, deck.state(0));
        check.same("p15 a throw keeps what is done", 1, deck.done(0));
    }

    private static void promise16Reset() {
        HandoverDeck deck = deckInRow();
        deck.addProcedure();
        deck.addStep(1, 7, 0, 7, 1);
        deck.step(1);
        deck.undo(1);
        for (int i = 0; i < 3; i++) {
            deck.step(0);
        }
        deck.undo(0);
        deck.undo(0);
        check.same("p16 lines that are closed", 2, deck.reset(0));
        check.same("p16 none is done", 0, deck.done(0));
        check.same("p16 states stay", 1, deck.state(0));
        check.same("p16 the line of the other procedure is open", 0, deck.openAt(0));
        check.same("p16 no other line", 1, deck.openLines());
        check.same("p16 again", 0, deck.reset(0));
        check.same("p16 taken after it", 0, deck.step(0));
        check.same("p16 undone after it", 3, deck.undo(0));
        check.same("p16 the state noted after it", 1, deck.state(0));
        check.isTrue("p16 sound", deck.isSound());
    }

    private static void promise16ResetThrows() {
        HandoverDeck deck = new HandoverDeck();
        for (int wrong : new int[] {-1, 0, 6, MIN, MAX}) {
            check.fails("p16 procedure " + wrong, NoSuchElementException.class, () -> deck.reset(wrong));
        }
        deck.addProcedure();
        deck.addStep(0, 0, 0, 0, 1);
        check.fails("p16 no crew", IllegalStateException.class, () -> deck.reset(0));
        deck.begin(0);
        deck.step(0);
        deck.handOver(1);
        check.fails("p16 in a hand-over", IllegalStateException.class, () -> deck.reset(0));
        check.same("p16 a throw resets none", 1, deck.done(0));
        deck.cancel();
        deck.pass(12);
        check.same("p16 a tired crew can reset", 0, deck.reset(0));
        check.same("p16 it is reset", 0, deck.done(0));
    }

    private static void promise17Drill() {
        HandoverDeck deck = new HandoverDeck();
        check.fails("p17 no procedures", NoSuchElementException.class, () -> deck.drill());
        deck.begin(0);
        for (int procedure = 0; procedure < 6; procedure++) {
            deck.addProcedure();
        }
        check.fails("p17 no steps", NoSuchElementException.class, () -> deck.drill());
        deck.addStep(5, 0, 0, 0, 0);
        check.same("p17 8 times the procedure", 40, deck.drill());
        deck.addStep(2, 0, 0, 0, 0);
        deck.addStep(2, 0, 0, 0, 0);
        check.same("p17 the lowest procedure", 16, deck.drill());
        deck.step(2);
        check.same("p17 taken at hour 0 comes behind never taken", 17, deck.drill());
        deck.step(2);
        check.same("p17 the last that was never taken", 40, deck.drill());
        deck.pass(1);
        deck.step(5);
        check.same("p17 of one hour, the lowest step", 16, deck.drill());
        deck.reset(2);
        deck.pass(1);
        deck.step(2);
        check.same("p17 the longest ago", 17, deck.drill());
        deck.step(2);
        check.same("p17 then the other", 40, deck.drill());
        deck.addStep(5, 0, 0, 0, 0);
        check.same("p17 a new step was never taken", 41, deck.drill());
    }

    private static void promise17DrillKeepsTaking() {
        HandoverDeck deck = deckInRow();
        deck.step(0);
        deck.step(0);
        deck.step(0);
        deck.pass(1);
        deck.undo(0);
        check.same("p17 undone, it was taken all the same", 0, deck.drill());
        deck.reset(0);
        check.same("p17 reset, all were taken in one hour", 0, deck.drill());
        deck.step(0);
        check.same("p17 taken again", 1, deck.drill());
    }
}
