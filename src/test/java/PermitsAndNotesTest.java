import java.util.NoSuchElementException;

/** Promises 18 to 22: permits, and lines of notes. */
public final class PermitsAndNotesTest {
    private static final Check check = new Check("permits and notes");
    private static final int MIN = Integer.MIN_VALUE;
    private static final int MAX = Integer.MAX_VALUE;

    public static void main(String[] args) {
        promise18OpenPermit();
        promise18OpenPermitTimes();
        promise18OpenPermitWithoutRoom();
        promise19ClosePermit();
        promise20IsPermitOpen();
        promise21Note();
        promise22Close();
        check.end();
    }

    private static void promise18OpenPermit() {
        HandoverDeck deck = new HandoverDeck();
        deck.begin(0);
        deck.note();
        check.same("p18 the number", 0, deck.openPermit(0b00000101));
        check.same("p18 its line", 'p', deck.kindOf(1));
        check.same("p18 the line is open", 2, deck.openLines());
        check.fails("p18 a unit in common", UnsupportedOperationException.class, () -> deck.openPermit(0b00001100));
        check.same("p18 a throw opens no line", 2, deck.openLines());
        check.same("p18 no unit in common", 1, deck.openPermit(0b11111010));
        check.fails("p18 all units are taken", UnsupportedOperationException.class, () -> deck.openPermit(128));
        deck.closePermit(0);
        for (int number = 2; number < 8; number++) {
            check.same("p18 the number goes on", number, deck.openPermit(1));
            deck.closePermit(number);
        }
        check.fails("p18 8 permits", IllegalStateException.class, () -> deck.openPermit(1));
        check.fails("p18 8 permits, before a unit in common", IllegalStateException.class, () -> deck.openPermit(2));
        check.isTrue("p18 sound", deck.isSound());
        HandoverDeck other = new HandoverDeck();
        other.begin(0);
        check.same("p18 the whole set", 0, other.openPermit(255));
    }

    private static void promise18OpenPermitTimes() {
        HandoverDeck deck = new HandoverDeck();
        for (int wrong : new int[] {0, 256, -1, MIN, MAX}) {
            check.fails("p18 set " + wrong, IllegalArgumentException.class, () -> deck.openPermit(wrong));
        }
        check.fails("p18 no crew", IllegalStateException.class, () -> deck.openPermit(1));
        deck.begin(0);
        deck.handOver(1);
        check.fails("p18 in a hand-over", IllegalStateException.class, () -> deck.openPermit(1));
        deck.cancel();
        deck.pass(11);
        check.same("p18 not yet tired", 0, deck.openPermit(1));
        deck.pass(1);
        check.fails("p18 tired", UnsupportedOperationException.class, () -> deck.openPermit(2));
        deck.handOver(1);
        check.fails("p18 in a hand-over, before tired", IllegalStateException.class, () -> deck.openPermit(2));
    }

    private static void promise18OpenPermitWithoutRoom() {
        HandoverDeck deck = new HandoverDeck();
        deck.begin(0);
        for (int line = 0; line < 59; line++) {
            deck.note();
        }
        check.same("p18 line 59", 0, deck.openPermit(1));
        check.same("p18 kind of line 59", 'p', deck.kindOf(59));
        check.fails("p18 60 lines", IllegalStateException.class, () -> deck.openPermit(2));
        check.fails("p18 60 lines, before a unit in common", IllegalStateException.class, () -> deck.openPermit(1));
        check.fails("p18 no permit without room", NoSuchElementException.class, () -> deck.isPermitOpen(1));
    }

    private static void promise19ClosePermit() {
        HandoverDeck deck = new HandoverDeck();
        for (int wrong : new int[] {-1, 0, 8, MIN, MAX}) {
            check.fails("p19 permit " + wrong, NoSuchElementException.class, () -> deck.closePermit(wrong));
        }
        deck.begin(0);
        deck.openPermit(1);
        deck.note();
        deck.openPermit(2);
        check.same("p19 the line", 2, deck.closePermit(1));
        check.same("p19 the line is closed", 2, deck.openLines());
        check.same("p19 the others are open", 1, deck.openAt(1));
        check.fails("p19 closed", IllegalStateException.class, () -> deck.closePermit(1));
        deck.handOver(1);
        check.fails("p19 in a hand-over", IllegalStateException.class, () -> deck.closePermit(0));
        deck.cancel();
        check.isTrue("p19 a throw closes none", deck.isPermitOpen(0));
        deck.pass(12);
        check.same("p19 a tired crew can close", 0, deck.closePermit(0));
        check.same("p19 one line is left", 1, deck.openLines());
        check.fails("p19 no such permit", NoSuchElementException.class, () -> deck.closePermit(2));
    }

    private static void promise20IsPermitOpen() {
        HandoverDeck deck = new HandoverDeck();
        deck.begin(0);
        deck.openPermit(1);
        deck.openPermit(2);
        check.isTrue("p20 open", deck.isPermitOpen(0));
        deck.closePermit(0);
        check.isFalse("p20 closed", deck.isPermitOpen(0));
        check.isTrue("p20 the other is open", deck.isPermitOpen(1));
        for (int wrong : new int[] {-1, 2, 8, MIN, MAX}) {
            check.fails("p20 permit " + wrong, NoSuchElementException.class, () -> deck.isPermitOpen(wrong));
        }
    }

    private static void promise21Note() {
        HandoverDeck deck = new HandoverDeck();
        for (int line = 0; line < 60; line++) {
            check.same("p21 the line", line, deck.note());
            check.same("p21 its kind", 'n', deck.kindOf(line));
        }
        check.same("p21 all are open", 60, deck.openLines());
        check.fails("p21 60 lines", IllegalStateException.class, () -> deck.note());
        deck.close(3);
        check.fails("p21 60 lines, one is closed", IllegalStateException.class, () -> deck.note());
        check.same("p21 by the log", 59, deck.openByLog());
    }

    private static void promise22Close() {
        HandoverDeck deck = new HandoverDeck();
        deck.begin(0);
        deck.note();
        deck.note();
        deck.raise(0, 0, 1);
        deck.openPermit(1);
        check.same("p22 open lines then", 3, deck.close(0));
        check.fails("p22 closed", IllegalStateException.class, () -> deck.close(0));
        check.fails("p22 an alarm", UnsupportedOperationException.class, () -> deck.close(2));
        check.fails("p22 a permit", UnsupportedOperationException.class, () -> deck.close(3));
        deck.clear(0, 0);
        check.fails("p22 a closed alarm", UnsupportedOperationException.class, () -> deck.close(2));
        deck.addProcedure();
        deck.addStep(0, 1, 0, 1, 1);
        deck.step(0);
        deck.undo(0);
        check.fails("p22 a step", UnsupportedOperationException.class, () -> deck.close(4));
        deck.handOver(1);
        check.same("p22 in a hand-over", 2, deck.close(1));
        for (int wrong : new int[] {-1, 5, 60, MIN, MAX}) {
            check.fails("p22 line " + wrong, NoSuchElementException.class, () -> deck.close(wrong));
        }
    }
}
