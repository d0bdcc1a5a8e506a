/** The boundary cases of promises 33 to 40, and of the 512 calls. */
public final class LineEdgesTest extends Edges {
    private LineEdgesTest() {
        super("edges of lines");
    }

    public static void main(String[] args) {
        new LineEdgesTest().runAll(33, 40);
    }

    /** So many lines of notes, of which the first ones are closed. */
    private static HandoverDeck withNotes(int count, int closed) {
        HandoverDeck deck = Decks.withNotes(count);
        for (int line = 0; line < closed; line++) {
            deck.close(line);
        }
        return deck;
    }

    /** A line of each kind: 0 an alarm, 1 a note, 2 a permit, 3 a step that was undone. */
    private static HandoverDeck ofEachKind() {
        HandoverDeck deck = new HandoverDeck();
        deck.begin(0);
        Decks.addProcedure(deck, new int[][] {{0, 0, 0, 1}});
        deck.raise(7, 3, 5);
        deck.note();
        deck.openPermit(128);
        deck.step(0);
        deck.undo(0);
        return deck;
    }

    void promise33FromNoneToAll() {
        HandoverDeck deck = new HandoverDeck();
        same("none", 0, deck.openLines());
        for (int count = 1; count <= 60; count++) {
            deck.note();
            same("opened", count, deck.openLines());
        }
        for (int count = 59; count >= 0; count--) {
            deck.close(count);
            same("closed", count, deck.openLines());
        }
    }

    void promise34FromNoneToAll() {
        HandoverDeck deck = new HandoverDeck();
        same("none", 0, deck.openByLog());
        for (int count = 1; count <= 60; count++) {
            deck.note();
            same("opened", count, deck.openByLog());
        }
        for (int count = 59; count >= 0; count--) {
            deck.close(59 - count);
            same("closed", count, deck.openByLog());
        }
    }

    void promise34EachWayOfClosing() {
        HandoverDeck deck = ofEachKind();
        same("all are open", 4, deck.openByLog());
        deck.clear(7, 3);
        same("an alarm is cleared", 3, deck.openByLog());
        deck.close(1);
        same("a note is closed", 2, deck.openByLog());
        deck.closePermit(0);
        same("a permit is closed", 1, deck.openByLog());
        deck.step(0);
        same("a step is taken", 0, deck.openByLog());
        deck.undo(0);
        same("it is undone", 1, deck.openByLog());
        deck.reset(0);
        same("it is reset", 0, deck.openByLog());
    }

    void promise35IndexOutOfRange() {
        outside(0, -1, INDEX, HandoverDeck::new, HandoverDeck::openAt);
        outside(0, -1, INDEX, () -> withNotes(60, 60), HandoverDeck::openAt);
        range(0, 0, INDEX, () -> withNotes(60, 59), HandoverDeck::openAt);
        range(0, 58, INDEX, () -> withNotes(60, 1), HandoverDeck::openAt);
        range(0, 58, INDEX, () -> withNotes(59, 0), HandoverDeck::openAt);
        range(0, 59, INDEX, () -> withNotes(60, 0), HandoverDeck::openAt);
        for (Decks.Maker maker : new Decks.Maker[] {Decks::unmanned, Decks::busy, Decks::handingOver, Decks::full}) {
            range(0, maker.make().openLines() - 1, INDEX, maker, HandoverDeck::openAt);
        }
    }

    void promise35OrderOfNumbers() {
        HandoverDeck all = withNotes(60, 0);
        for (int index = 0; index < 60; index++) {
            same("of all", index, all.openAt(index));
        }
        for (int line = 0; line < 60; line += 2) {
            all.close(line);
        }
        for (int index = 0; index < 30; index++) {
            same("of each second", 2 * index + 1, all.openAt(index));
        }
        same("the last alone", 59, withNotes(60, 59).openAt(0));
    }

    void promise36NoSuchLine() {
        outside(0, -1, ELEMENT, HandoverDeck::new, HandoverDeck::kindOf);
        range(0, 0, ELEMENT, () -> withNotes(1, 0), HandoverDeck::kindOf);
        range(0, 5, ELEMENT, Decks::unmanned, HandoverDeck::kindOf);
        range(0, 58, ELEMENT, () -> withNotes(59, 59), HandoverDeck::kindOf);
        range(0, 59, ELEMENT, () -> withNotes(60, 60), HandoverDeck::kindOf);
        range(0, 59, ELEMENT, Decks::full, HandoverDeck::kindOf);
    }

    void promise36EachKind() {
        HandoverDeck deck = ofEachKind();
        for (int line = 0; line < 4; line++) {
            same("open", "anps".charAt(line), deck.kindOf(line));
        }
        deck.clear(7, 3);
        deck.close(1);
        deck.closePermit(0);
        deck.reset(0);
        for (int line = 0; line < 4; line++) {
            same("closed", "anps".charAt(line), deck.kindOf(line));
        }
    }

    void promise37NoSuchLine() {
        outside(0, -1, ELEMENT, HandoverDeck::new, HandoverDeck::passed);
        range(0, 0, ELEMENT, () -> withNotes(1, 0), HandoverDeck::passed);
        range(0, 5, ELEMENT, Decks::unmanned, HandoverDeck::passed);
        range(0, 58, ELEMENT, () -> withNotes(59, 59), HandoverDeck::passed);
        range(0, 59, ELEMENT, () -> withNotes(60, 60), HandoverDeck::passed);
        range(0, 59, ELEMENT, Decks::full, HandoverDeck::passed);
    }

    void promise37OfAllPlaces() {
        HandoverDeck deck = withNotes(60, 0);
        deck.begin(0);
        Decks.change(deck, 1);
        deck.close(0);
        deck.close(59);
        Decks.change(deck, 2);
        same("first, closed after one", 1, deck.passed(0));
        same("second", 2, deck.passed(1));
        same("last but one", 2, deck.passed(58));
        same("last, closed after one", 1, deck.passed(59));
    }

    void promise37NotOfACancelledOne() {
        HandoverDeck deck = withNotes(1, 0);
        deck.begin(0);
        same("none", 0, deck.passed(0));
        deck.handOver(1);
        deck.acknowledge(0);
        same("not taken yet", 0, deck.passed(0));
        deck.cancel();
        same("cancelled", 0, deck.passed(0));
    }

    void promise37ManyHandOvers() {
        HandoverDeck deck = withNotes(1, 0);
        deck.begin(0);
        for (int count = 1; count <= 100; count++) {
            deck.pass(4);
            deck.handOver(count % 4);
            deck.acknowledge(0);
            deck.take();
        }
        same("a hundred", 100, deck.passed(0));
    }

    void promise38NoLines() {
        refused("on a new deck", ARITHMETIC, HandoverDeck::new, HandoverDeck::closedShare);
        refused("with all but lines", ARITHMETIC, LineEdgesTest::withoutLines, HandoverDeck::closedShare);
    }

    private static HandoverDeck withoutLines() {
        HandoverDeck deck = new HandoverDeck();
        Decks.addProcedure(deck, new int[][] {{0, 0, 0, 1}});
        deck.begin(0);
        deck.step(0);
        deck.pass(1);
        deck.handOver(1);
        return deck;
    }

    void promise38FromNoneToAll() {
        same("one open line", 0.0f, withNotes(1, 0).closedShare());
        same("one closed line", 1.0f, withNotes(1, 1).closedShare());
        for (int all = 1; all <= 60; all++) {
            for (int closed = 0; closed <= all; closed++) {
                same(closed + " of " + all, (float) closed / (float) all, withNotes(all, closed).closedShare());
            }
        }
    }

    void promise39NoOpenLines() {
        refused("on a new deck", ARITHMETIC, HandoverDeck::new, HandoverDeck::meanAge);
        refused("no lines", ARITHMETIC, LineEdgesTest::withoutLines, HandoverDeck::meanAge);
        refused("one closed line", ARITHMETIC, () -> withNotes(1, 1), HandoverDeck::meanAge);
        refused("60 closed lines", ARITHMETIC, () -> withNotes(60, 60), HandoverDeck::meanAge);
    }

    void promise39LeastAndGreatestAge() {
        same("opened now", 0.0, withNotes(60, 0).meanAge());
        same("the last open line", 0.0, withNotes(60, 59).meanAge());
        HandoverDeck deck = withNotes(60, 0);
        for (int call = 61; call < 512; call++) {
            deck.pass(48);
        }
        same("60 lines, the 512th call", 451.0 * 48, deck.meanAge());
    }

    void promise39OfTheOpenLines() {
        HandoverDeck deck = new HandoverDeck();
        int sum = 0;
        for (int line = 0; line < 60; line++) {
            deck.note();
            deck.pass(1);
            sum += line + 1;
        }
        same("ages 1 to 60", (double) sum / 60.0, deck.meanAge());
        deck.close(0);
        same("ages 1 to 59", (double) (sum - 60) / 59.0, deck.meanAge());
        deck.close(59);
        same("ages 2 to 59", (double) (sum - 61) / 58.0, deck.meanAge());
        for (int line = 1; line < 57; line++) {
            deck.close(line);
        }
        same("ages 2 and 3", 2.5, deck.meanAge());
    }

    void promise40NothingThereAndAllPlacesTaken() {
        for (Decks.Maker maker : Decks.ALL) {
            isTrue("sound", maker.make().isSound());
        }
        isTrue("60 open lines", withNotes(60, 0).isSound());
        isTrue("60 closed lines", withNotes(60, 60).isSound());
    }

    void promise40AllAlarmsPermitsAndSteps() {
        HandoverDeck deck = new HandoverDeck();
        deck.begin(0);
        Decks.raiseAll(deck);
        for (int unit = 0; unit < 8; unit++) {
            deck.openPermit(1 << unit);
        }
        isTrue("32 alarms, 8 permits", deck.isSound());
        for (int permit = 0; permit < 8; permit++) {
            deck.closePermit(permit);
        }
        for (int procedure = 0; procedure < 6; procedure++) {
            Decks.addProcedure(deck, new int[8][4]);
        }
        for (int step = 0; step < 16; step++) {
            deck.step(step / 8 * 5);
        }
        for (int step = 0; step < 16; step++) {
            deck.undo(step / 8 * 5);
            isTrue("undone", deck.isSound());
        }
        for (int alarm = 0; alarm < 32; alarm++) {
            deck.clear(alarm / 4, alarm % 4);
            isTrue("cleared", deck.isSound());
        }
        deck.reset(5);
        isTrue("reset", deck.isSound());
        deck.step(0);
        isTrue("taken", deck.isSound());
    }
}
