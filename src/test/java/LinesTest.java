import java.util.NoSuchElementException;

/** Promises 33 to 40: what the log tells of its lines. */
public final class LinesTest {
    private static final Check check = new Check("lines");
    private static final int MIN = Integer.MIN_VALUE;
    private static final int MAX = Integer.MAX_VALUE;

    public static void main(String[] args) {
        promises33And34OpenLines();
        promise35OpenAt();
        promise36KindOf();
        promise37Passed();
        promise38ClosedShare();
        promise39MeanAge();
        promise40IsSound();
        check.end();
    }

    /** A deck with an open line of each kind: 0 'a', 1 'n', 2 'p', 3 's'. */
    private static HandoverDeck deckOfAllKinds() {
        HandoverDeck deck = new HandoverDeck();
        deck.begin(0);
        deck.addProcedure();
        deck.addStep(0, 0, 0, 0, 1);
        deck.raise(1, 1, 1);
        deck.note();
        deck.openPermit(2);
        deck.step(0);
        deck.undo(0);
        return deck;
    }

    private static void promises33And34OpenLines() {
        HandoverDeck deck = deckOfAllKinds();
        sameOpen(deck, 4);
        deck.step(0);
        sameOpen(deck, 3);
        deck.undo(0);
        sameOpen(deck, 4);
        deck.reset(0);
        sameOpen(deck, 3);
        deck.clear(1, 1);
        sameOpen(deck, 2);
        deck.close(1);
        sameOpen(deck, 1);
        deck.closePermit(0);
        sameOpen(deck, 0);
        check.fails("p33 a throw", IllegalStateException.class, () -> deck.close(1));
        sameOpen(deck, 0);
        while (deck.openLines() < 55) {
            deck.note();
        }
        sameOpen(deck, 55);
        for (int line = 5; line < 60; line++) {
            deck.close(line);
        }
        sameOpen(deck, 0);
    }

    private static void sameOpen(HandoverDeck deck, int due) {
        check.same("p33 openLines", due, deck.openLines());
        check.same("p34 openByLog", due, deck.openByLog());
        check.isTrue("p40 isSound", deck.isSound());
    }

    private static void promise35OpenAt() {
        HandoverDeck deck = deckOfAllKinds();
        for (int index = 0; index < 4; index++) {
            check.same("p35 all open", index, deck.openAt(index));
        }
        deck.close(1);
        deck.clear(1, 1);
        check.same("p35 the first that is open", 2, deck.openAt(0));
        check.same("p35 the second that is open", 3, deck.openAt(1));
        for (int wrong : new int[] {-1, 2, 60, MIN, MAX}) {
            check.fails("p35 index " + wrong, IndexOutOfBoundsException.class, () -> deck.openAt(wrong));
        }
    }

    private static void promise36KindOf() {
        HandoverDeck deck = deckOfAllKinds();
        for (int line = 0; line < 4; line++) {
            check.same("p36 kind", "anps".charAt(line), deck.kindOf(line));
        }
        deck.clear(1, 1);
        check.same("p36 a closed line", 'a', deck.kindOf(0));
        for (int wrong : new int[] {-1, 4, 60, MIN, MAX}) {
            check.fails("p36 line " + wrong, NoSuchElementException.class, () -> deck.kindOf(wrong));
        }
    }

    private static void promise37Passed() {
        HandoverDeck deck = new HandoverDeck();
        deck.begin(0);
        deck.note();
        deck.handOver(1);
        deck.note();
        deck.acknowledge(0);
        deck.acknowledge(1);
        check.same("p37 not before it is taken", 0, deck.passed(0));
        deck.take();
        check.same("p37 one", 1, deck.passed(0));
        check.same("p37 opened in the hand-over", 1, deck.passed(1));
        deck.close(1);
        deck.note();
        deck.handOver(2);
        deck.acknowledge(0);
        deck.acknowledge(2);
        deck.take();
        check.same("p37 two", 2, deck.passed(0));
        check.same("p37 a closed line stays", 1, deck.passed(1));
        check.same("p37 the new one", 1, deck.passed(2));
        for (int wrong : new int[] {-1, 3, 60, MIN, MAX}) {
            check.fails("p37 line " + wrong, NoSuchElementException.class, () -> deck.passed(wrong));
        }
    }

    private static void promise38ClosedShare() {
        HandoverDeck deck = new HandoverDeck();
        check.fails("p38 no lines", ArithmeticException.class, () -> deck.closedShare());
        deck.note();
        check.same("p38 none", 0.0f, deck.closedShare());
        deck.note();
        deck.raise(0, 0, 1);
        deck.clear(0, 0);
        check.same("p38 a third, as a float", 1.0f / 3.0f, deck.closedShare());
        deck.close(0);
        check.same("p38 two thirds", 2.0f / 3.0f, deck.closedShare());
        deck.close(1);
        check.same("p38 all", 1.0f, deck.closedShare());
    }

    private static void promise39MeanAge() {
        HandoverDeck deck = new HandoverDeck();
        check.fails("p39 no lines", ArithmeticException.class, () -> deck.meanAge());
        deck.pass(5);
        deck.note();
        check.same("p39 opened now", 0.0, deck.meanAge());
        deck.pass(3);
        deck.raise(0, 0, 1);
        deck.pass(1);
        deck.note();
        check.same("p39 4, 1 and 0 hours", 5.0 / 3.0, deck.meanAge());
        deck.close(0);
        check.same("p39 a closed line does not count", 0.5, deck.meanAge());
        deck.clear(0, 0);
        deck.close(2);
        check.fails("p39 none is open", ArithmeticException.class, () -> deck.meanAge());
    }

    private static void promise40IsSound() {
        HandoverDeck deck = deckOfAllKinds();
        check.isTrue("p40 all kinds are open", deck.isSound());
        deck.openPermit(4);
        check.isTrue("p40 two permits", deck.isSound());
        deck.closePermit(0);
        deck.openPermit(2);
        check.isTrue("p40 the unit of a closed permit", deck.isSound());
        deck.clear(1, 1);
        check.isTrue("p40 an alarm was cleared", deck.isSound());
        deck.step(0);
        check.isTrue("p40 the step was taken again", deck.isSound());
        deck.undo(0);
        deck.reset(0);
        check.isTrue("p40 the procedure was reset", deck.isSound());
    }
}
