/** The boundary cases of promises 18 to 22. */
public final class PermitAndNoteEdgesTest extends Edges {
    private PermitAndNoteEdgesTest() {
        super("edges of permits and notes");
    }

    public static void main(String[] args) {
        new PermitAndNoteEdgesTest().runAll(18, 22);
    }

    private static HandoverDeck onDuty() {
        HandoverDeck deck = new HandoverDeck();
        deck.begin(0);
        return deck;
    }

    /** So many permits on unit 0, of which only the last is open. */
    private static HandoverDeck withPermits(int count) {
        HandoverDeck deck = onDuty();
        for (int permit = 0; permit < count; permit++) {
            deck.openPermit(1);
            if (permit < count - 1) {
                deck.closePermit(permit);
            }
        }
        return deck;
    }

    private static HandoverDeck withPermitOn(int units) {
        HandoverDeck deck = onDuty();
        deck.openPermit(units);
        return deck;
    }

    /** One permit on each unit. */
    private static HandoverDeck withOpenPermits() {
        HandoverDeck deck = onDuty();
        for (int unit = 0; unit < 8; unit++) {
            deck.openPermit(1 << unit);
        }
        return deck;
    }

    private static HandoverDeck inHandOver(HandoverDeck deck) {
        deck.handOver(1);
        return deck;
    }

    private static HandoverDeck after(HandoverDeck deck, int hours) {
        deck.pass(hours);
        return deck;
    }

    private static HandoverDeck with60Lines(HandoverDeck deck) {
        int line = deck.note();
        while (line < 59) {
            line = deck.note();
        }
        return deck;
    }

    void promise18SetOutOfRange() {
        for (Decks.Maker maker : Decks.ALL) {
            outside(1, 255, ARGUMENT, maker, HandoverDeck::openPermit);
        }
        range(1, 255, ARGUMENT, PermitAndNoteEdgesTest::onDuty, HandoverDeck::openPermit);
    }

    void promise18NoCrew() {
        refused("on a new deck", STATE, HandoverDeck::new, deck -> deck.openPermit(1));
        refused("no crew", STATE, Decks::unmanned, deck -> deck.openPermit(255));
    }

    void promise18HandOver() {
        refused("a hand-over", STATE, () -> inHandOver(onDuty()), deck -> deck.openPermit(1));
        HandoverDeck cancelled = inHandOver(onDuty());
        cancelled.cancel();
        same("cancelled", 0, cancelled.openPermit(1));
        HandoverDeck taken = inHandOver(onDuty());
        taken.take();
        same("taken", 0, taken.openPermit(1));
    }

    void promise18EightPermits() {
        for (int count = 0; count < 8; count++) {
            same("number", count, withPermits(count).openPermit(2));
        }
        refused("the ninth", STATE, () -> withPermits(8), deck -> deck.openPermit(2));
        refused("all are open", STATE, PermitAndNoteEdgesTest::withOpenPermits, deck -> deck.openPermit(1));
        refused("all places taken", STATE, Decks::full, deck -> deck.openPermit(1));
    }

    void promise18SixtyLines() {
        HandoverDeck deck = Decks.withClosedNotes(59);
        same("number", 0, deck.openPermit(255));
        same("the last line", 'p', deck.kindOf(59));
        same("it is open", 59, deck.openAt(0));
        refused("60 closed lines", STATE, () -> Decks.withClosedNotes(60), full -> full.openPermit(1));
        refused("60 open lines", STATE, () -> with60Lines(onDuty()), full -> full.openPermit(1));
    }

    void promise18UnitOfAnOpenPermit() {
        for (int unit = 0; unit < 8; unit++) {
            int set = 1 << unit;
            refused("unit " + unit, UNSUPPORTED, () -> withPermitOn(set), deck -> deck.openPermit(set));
            refused("unit " + unit + " of all", UNSUPPORTED, () -> withPermitOn(set), deck -> deck.openPermit(255));
            refused("all have " + unit, UNSUPPORTED, () -> withPermitOn(255), deck -> deck.openPermit(set));
            same("all others", 1, withPermitOn(set).openPermit(255 - set));
        }
        HandoverDeck closed = withPermitOn(255);
        closed.closePermit(0);
        same("a closed permit", 1, closed.openPermit(255));
    }

    void promise18UnitOfTheLastPermit() {
        refused("the seventh of seven", UNSUPPORTED, () -> withPermits(7), deck -> deck.openPermit(1));
        refused("the first of three", UNSUPPORTED, Decks::busy, deck -> deck.openPermit(0b01000000));
        refused("the last of three", UNSUPPORTED, Decks::busy, deck -> deck.openPermit(0b00001111));
        same("none of three", 3, Decks.busy().openPermit(0b10110111));
    }

    void promise18TiredAfter12Hours() {
        same("11 hours", 0, after(onDuty(), 11).openPermit(1));
        refused("12 hours", UNSUPPORTED, () -> after(onDuty(), 12), deck -> deck.openPermit(1));
        refused("60 hours", UNSUPPORTED, Decks::tired, deck -> deck.openPermit(0b10000000));
        HandoverDeck deck = after(onDuty(), 12);
        Decks.change(deck, 1);
        same("another crew", 0, deck.openPermit(1));
    }

    void promise18SetBeforeState() {
        refused("no crew", ARGUMENT, HandoverDeck::new, deck -> deck.openPermit(0));
        refused("a hand-over", ARGUMENT, Decks::handingOver, deck -> deck.openPermit(256));
        refused("8 permits", ARGUMENT, () -> withPermits(8), deck -> deck.openPermit(0));
        refused("60 lines", ARGUMENT, () -> Decks.withClosedNotes(60), deck -> deck.openPermit(256));
    }

    void promise18SetBeforeUnsupported() {
        refused("a unit in common", ARGUMENT, () -> withPermitOn(1), deck -> deck.openPermit(257));
        refused("all units in common", ARGUMENT, () -> withPermitOn(255), deck -> deck.openPermit(-1));
        refused("tired", ARGUMENT, Decks::tired, deck -> deck.openPermit(0));
    }

    void promise18HandOverBeforeUnsupported() {
        refused("a unit in common", STATE, () -> inHandOver(withPermitOn(1)), deck -> deck.openPermit(1));
        refused("tired", STATE, () -> inHandOver(after(onDuty(), 12)), deck -> deck.openPermit(1));
    }

    void promise18EightPermitsBeforeUnsupported() {
        refused("a unit in common", STATE, () -> withPermits(8), deck -> deck.openPermit(1));
        refused("tired", STATE, () -> after(withPermits(8), 12), deck -> deck.openPermit(2));
    }

    void promise18SixtyLinesBeforeUnsupported() {
        refused("a unit in common", STATE, () -> with60Lines(withPermitOn(1)), deck -> deck.openPermit(1));
        refused("tired", STATE, () -> after(with60Lines(onDuty()), 12), deck -> deck.openPermit(1));
    }

    void promise19NoSuchPermit() {
        outside(0, -1, ELEMENT, HandoverDeck::new, HandoverDeck::closePermit);
        outside(0, -1, ELEMENT, Decks::unmanned, HandoverDeck::closePermit);
        outside(0, 2, ELEMENT, Decks::busy, HandoverDeck::closePermit);
        outside(0, 2, ELEMENT, Decks::tired, HandoverDeck::closePermit);
        range(0, 7, ELEMENT, PermitAndNoteEdgesTest::withOpenPermits, HandoverDeck::closePermit);
        outside(0, 7, ELEMENT, Decks::full, HandoverDeck::closePermit);
    }

    void promise19Closed() {
        refused("the first", STATE, Decks::busy, deck -> deck.closePermit(0));
        for (int permit = 0; permit < 6; permit++) {
            int number = permit;
            refused("of all places", STATE, Decks::full, deck -> deck.closePermit(number));
        }
    }

    void promise19HandOver() {
        refused("an open one", STATE, Decks::handingOver, deck -> deck.closePermit(1));
        refused("a closed one", STATE, Decks::handingOver, deck -> deck.closePermit(0));
        HandoverDeck deck = inHandOver(withPermitOn(1));
        deck.cancel();
        same("cancelled", 0, deck.closePermit(0));
    }

    void promise19PermitBeforeState() {
        refused("no crew", ELEMENT, HandoverDeck::new, deck -> deck.closePermit(0));
        refused("a hand-over", ELEMENT, Decks::handingOver, deck -> deck.closePermit(3));
        refused("a hand-over, number -1", ELEMENT, Decks::handingOver, deck -> deck.closePermit(-1));
    }

    void promise19EachOfAll() {
        HandoverDeck deck = withOpenPermits();
        for (int permit = 7; permit >= 0; permit--) {
            same("line", permit, deck.closePermit(permit));
            same("open lines", permit, deck.openLines());
        }
    }

    void promise19WithoutRoom() {
        HandoverDeck deck = Decks.withClosedNotes(59);
        deck.openPermit(1);
        same("the last line", 59, deck.closePermit(0));
        same("a tired crew", 0, after(withPermitOn(1), 12).closePermit(0));
    }

    void promise20NoSuchPermit() {
        outside(0, -1, ELEMENT, HandoverDeck::new, HandoverDeck::isPermitOpen);
        outside(0, -1, ELEMENT, Decks::unmanned, HandoverDeck::isPermitOpen);
        range(0, 2, ELEMENT, Decks::busy, HandoverDeck::isPermitOpen);
        range(0, 2, ELEMENT, Decks::handingOver, HandoverDeck::isPermitOpen);
        range(0, 7, ELEMENT, Decks::full, HandoverDeck::isPermitOpen);
    }

    void promise20EachOfAll() {
        HandoverDeck deck = withOpenPermits();
        for (int permit = 0; permit < 8; permit++) {
            isTrue("open", deck.isPermitOpen(permit));
            deck.closePermit(permit);
            isFalse("closed", deck.isPermitOpen(permit));
        }
    }

    void promise21SixtyLines() {
        HandoverDeck deck = new HandoverDeck();
        for (int line = 0; line < 60; line++) {
            same("line", line, deck.note());
        }
        refused("60 open lines", STATE, () -> Decks.withNotes(60), HandoverDeck::note);
        refused("60 closed lines", STATE, () -> Decks.withClosedNotes(60), HandoverDeck::note);
        refused("all places taken", STATE, Decks::full, HandoverDeck::note);
        same("59 closed lines", 59, Decks.withClosedNotes(59).note());
    }

    void promise21AtAnyTime() {
        same("no crew", 6, Decks.unmanned().note());
        HandoverDeck deck = Decks.handingOver();
        int before = deck.openLines();
        deck.note();
        same("in a hand-over", before + 1, deck.openLines());
        same("of a tired crew", 'n', kindOfNext(Decks.tired()));
    }

    private static char kindOfNext(HandoverDeck deck) {
        return deck.kindOf(deck.note());
    }

    void promise22NoSuchLine() {
        outside(0, -1, ELEMENT, HandoverDeck::new, HandoverDeck::close);
        outside(0, 5, ELEMENT, Decks::unmanned, HandoverDeck::close);
        range(0, 0, ELEMENT, () -> Decks.withNotes(1), HandoverDeck::close);
        range(0, 58, ELEMENT, () -> Decks.withNotes(59), HandoverDeck::close);
        range(0, 59, ELEMENT, () -> Decks.withNotes(60), HandoverDeck::close);
        outside(0, 59, ELEMENT, () -> Decks.withClosedNotes(60), HandoverDeck::close);
        outside(0, 59, ELEMENT, Decks::full, HandoverDeck::close);
    }

    /** Lines: 0 an alarm, 1 a permit, 2 a step, 3 a note; all are open, or all are closed. */
    private static HandoverDeck ofEachKind(boolean open) {
        HandoverDeck deck = onDuty();
        Decks.addProcedure(deck, new int[][] {{0, 0, 0, 1}});
        deck.raise(0, 0, 1);
        deck.openPermit(2);
        deck.step(0);
        deck.undo(0);
        deck.note();
        if (!open) {
            deck.clear(0, 0);
            deck.closePermit(0);
            deck.step(0);
            deck.close(3);
        }
        return deck;
    }

    void promise22NotOfANote() {
        for (int line = 0; line < 3; line++) {
            int number = line;
            refused("open line " + line, UNSUPPORTED, () -> ofEachKind(true), deck -> deck.close(number));
        }
        same("the note", 3, ofEachKind(true).close(3));
    }

    void promise22NotOfANoteBeforeClosed() {
        for (int line = 0; line < 3; line++) {
            int number = line;
            refused("closed line " + line, UNSUPPORTED, () -> ofEachKind(false), deck -> deck.close(number));
        }
    }

    void promise22Closed() {
        refused("the note", STATE, () -> ofEachKind(false), deck -> deck.close(3));
        refused("the first line", STATE, () -> Decks.withClosedNotes(1), deck -> deck.close(0));
        refused("the first of all", STATE, () -> Decks.withClosedNotes(60), deck -> deck.close(0));
        refused("the last of all", STATE, () -> Decks.withClosedNotes(60), deck -> deck.close(59));
    }

    void promise22OpenLinesThen() {
        HandoverDeck deck = Decks.withNotes(60);
        for (int line = 59; line >= 0; line--) {
            same("open lines", line, deck.close(line));
        }
    }

    void promise22AtAnyTime() {
        same("no crew", 3, Decks.unmanned().close(4));
        HandoverDeck deck = Decks.handingOver();
        int before = deck.openLines();
        same("in a hand-over", before - 1, deck.close(4));
    }
}
