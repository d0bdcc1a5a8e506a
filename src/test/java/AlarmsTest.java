import java.util.NoSuchElementException;

/** Promises 1 to 8: a new object, units, and alarms. */
public final class AlarmsTest {
    private static final Check check = new Check("alarms");
    private static final int MIN = Integer.MIN_VALUE;
    private static final int MAX = Integer.MAX_VALUE;

    public static void main(String[] args) {
        promise1NewObject();
        promise2State();
        promise3Raise();
        promise3RaiseWithoutRoom();
        promise4Clear();
        promise5Shelve();
        promise5ShelveAfterClear();
        promise6IsShelved();
        promise7Alarms();
        promise8Top();
        check.end();
    }

    private static void promise1NewObject() {
        HandoverDeck deck = new HandoverDeck();
        check.same("p1 hour", 0, deck.hour());
        check.same("p1 openLines", 0, deck.openLines());
        check.same("p1 openByLog", 0, deck.openByLog());
        check.fails("p1 no line", NoSuchElementException.class, () -> deck.kindOf(0));
        check.fails("p1 no procedure", NoSuchElementException.class, () -> deck.done(0));
        check.fails("p1 no permit", NoSuchElementException.class, () -> deck.isPermitOpen(0));
        check.fails("p1 no crew", NoSuchElementException.class, () -> deck.onDuty());
        check.fails("p1 no alarm", NoSuchElementException.class, () -> deck.top());
        check.isTrue("p1 isSound", deck.isSound());
        HandoverDeck other = new HandoverDeck();
        deck.note();
        deck.pass(3);
        check.same("p1 objects are apart: lines", 0, other.openLines());
        check.same("p1 objects are apart: hour", 0, other.hour());
    }

    private static void promise2State() {
        HandoverDeck deck = new HandoverDeck();
        for (int unit = 0; unit < 8; unit++) {
            check.same("p2 first state of " + unit, 0, deck.state(unit));
        }
        deck.begin(0);
        deck.addProcedure();
        for (int unit = 0; unit < 8; unit++) {
            deck.addStep(0, unit, 0, unit, unit % 3 + 1);
            deck.step(0);
        }
        for (int unit = 0; unit < 8; unit++) {
            check.same("p2 state of " + unit, unit % 3 + 1, deck.state(unit));
        }
        for (int unit : new int[] {-1, 8, MIN, MAX}) {
            check.fails("p2 unit " + unit, IndexOutOfBoundsException.class, () -> deck.state(unit));
        }
    }

    private static void promise3Raise() {
        HandoverDeck deck = new HandoverDeck();
        deck.note();
        check.same("p3 line after a note", 1, deck.raise(0, 0, 1));
        check.same("p3 other kind", 2, deck.raise(0, 3, 5));
        check.same("p3 other unit", 3, deck.raise(7, 0, 1));
        check.same("p3 last unit and kind", 4, deck.raise(7, 3, 3));
        check.same("p3 kind of the line", 'a', deck.kindOf(2));
        check.same("p3 lines are open", 5, deck.openLines());
        check.fails("p3 active", IllegalStateException.class, () -> deck.raise(0, 3, 2));
        check.same("p3 a throw opens no line", 5, deck.openLines());
        check.same("p3 a throw keeps the priority", 1, deck.alarms(5));
        for (int wrong : new int[] {-1, 8, MIN, MAX}) {
            check.fails("p3 unit " + wrong, IndexOutOfBoundsException.class, () -> deck.raise(wrong, 0, 0));
        }
        for (int wrong : new int[] {-1, 4, MIN, MAX}) {
            check.fails("p3 kind " + wrong, IndexOutOfBoundsException.class, () -> deck.raise(0, wrong, 0));
        }
        for (int wrong : new int[] {0, 6, -1, MIN, MAX}) {
            check.fails("p3 priority " + wrong, IllegalArgumentException.class, () -> deck.raise(0, 0, wrong));
        }
        deck.clear(0, 3);
        check.same("p3 raised anew", 5, deck.raise(0, 3, 2));
        check.same("p3 raised anew, new priority", 0, deck.alarms(5));
    }

    private static void promise3RaiseWithoutRoom() {
        HandoverDeck deck = new HandoverDeck();
        for (int line = 0; line < 59; line++) {
            deck.note();
            deck.close(line);
        }
        check.same("p3 line 59", 59, deck.raise(1, 1, 1));
        check.fails("p3 60 lines", IllegalStateException.class, () -> deck.raise(2, 2, 2));
        check.fails("p3 60 lines, priority first", IllegalArgumentException.class, () -> deck.raise(2, 2, 6));
        check.same("p3 not raised without room", 1, deck.alarms(1));
        check.fails("p3 not active without room", NoSuchElementException.class, () -> deck.clear(2, 2));
    }

    private static void promise4Clear() {
        HandoverDeck deck = new HandoverDeck();
        deck.raise(2, 1, 3);
        deck.raise(1, 2, 4);
        check.fails("p4 never raised", NoSuchElementException.class, () -> deck.clear(2, 2));
        check.same("p4 line", 1, deck.clear(1, 2));
        check.same("p4 the line is closed", 1, deck.openLines());
        check.same("p4 the other line is open", 0, deck.openAt(0));
        check.same("p4 the alarm is active no more", 1, deck.alarms(1));
        check.fails("p4 cleared", NoSuchElementException.class, () -> deck.clear(1, 2));
        check.same("p4 line 0", 0, deck.clear(2, 1));
        check.same("p4 none is open", 0, deck.openLines());
        check.same("p4 none is open by the log", 0, deck.openByLog());
        for (int wrong : new int[] {-1, 8, MIN, MAX}) {
            check.fails("p4 unit " + wrong, IndexOutOfBoundsException.class, () -> deck.clear(wrong, 0));
        }
        for (int wrong : new int[] {-1, 4, MIN, MAX}) {
            check.fails("p4 kind " + wrong, IndexOutOfBoundsException.class, () -> deck.clear(0, wrong));
        }
    }

    private static void promise5Shelve() {
        HandoverDeck deck = new HandoverDeck();
        deck.pass(7);
        check.fails("p5 not active, before the hours", NoSuchElementException.class, () -> deck.shelve(3, 3, 0));
        deck.raise(3, 3, 2);
        deck.raise(3, 2, 2);
        for (int wrong : new int[] {0, 25, -1, MIN, MAX}) {
            check.fails("p5 hours " + wrong, IllegalArgumentException.class, () -> deck.shelve(3, 3, wrong));
        }
        check.isFalse("p5 not shelved by a throw", deck.isShelved(3, 3));
        check.same("p5 the end", 8, deck.shelve(3, 3, 1));
        check.same("p5 the longest", 31, deck.shelve(3, 2, 24));
        check.fails("p5 shelved", IllegalStateException.class, () -> deck.shelve(3, 3, 5));
        check.fails("p5 shelved, the hours first", IllegalArgumentException.class, () -> deck.shelve(3, 3, 25));
        check.same("p5 a throw keeps the end", 1, deck.pass(1));
        check.same("p5 shelved again", 11, deck.shelve(3, 3, 3));
        for (int wrong : new int[] {-1, 8, MIN, MAX}) {
            check.fails("p5 unit " + wrong, IndexOutOfBoundsException.class, () -> deck.shelve(wrong, 0, 0));
        }
        for (int wrong : new int[] {-1, 4, MIN, MAX}) {
            check.fails("p5 kind " + wrong, IndexOutOfBoundsException.class, () -> deck.shelve(0, wrong, 0));
        }
    }

    private static void promise5ShelveAfterClear() {
        HandoverDeck deck = new HandoverDeck();
        deck.raise(0, 0, 1);
        deck.shelve(0, 0, 24);
        deck.clear(0, 0);
        check.fails("p5 cleared", NoSuchElementException.class, () -> deck.shelve(0, 0, 1));
        deck.raise(0, 0, 1);
        check.isFalse("p5 raised anew, it is not shelved", deck.isShelved(0, 0));
        check.same("p5 raised anew, it can be shelved", 2, deck.shelve(0, 0, 2));
    }

    private static void promise6IsShelved() {
        HandoverDeck deck = new HandoverDeck();
        check.isFalse("p6 not active", deck.isShelved(5, 0));
        deck.raise(5, 0, 1);
        deck.raise(5, 1, 1);
        check.isFalse("p6 active", deck.isShelved(5, 0));
        deck.shelve(5, 0, 3);
        check.isTrue("p6 shelved", deck.isShelved(5, 0));
        check.isFalse("p6 the other kind", deck.isShelved(5, 1));
        deck.pass(2);
        check.isTrue("p6 in the last hour", deck.isShelved(5, 0));
        deck.pass(1);
        check.isFalse("p6 the hours have passed", deck.isShelved(5, 0));
        deck.shelve(5, 1, 3);
        deck.clear(5, 1);
        check.isFalse("p6 cleared", deck.isShelved(5, 1));
        for (int wrong : new int[] {-1, 8, MIN, MAX}) {
            check.fails("p6 unit " + wrong, IndexOutOfBoundsException.class, () -> deck.isShelved(wrong, 0));
        }
        for (int wrong : new int[] {-1, 4, MIN, MAX}) {
            check.fails("p6 kind " + wrong, IndexOutOfBoundsException.class, () -> deck.isShelved(0, wrong));
        }
    }

    private static void promise7Alarms() {
        HandoverDeck deck = new HandoverDeck();
        check.same("p7 none", 0, deck.alarms(1));
        for (int priority = 1; priority <= 5; priority++) {
            deck.raise(priority, 0, priority);
        }
        for (int priority = 1; priority <= 5; priority++) {
            check.same("p7 at least " + priority, 6 - priority, deck.alarms(priority));
        }
        deck.shelve(4, 0, 2);
        check.same("p7 a shelved one does not count", 1, deck.alarms(4));
        deck.pass(2);
        check.same("p7 shelved no more", 2, deck.alarms(4));
        deck.clear(5, 0);
        check.same("p7 cleared", 1, deck.alarms(4));
        for (int wrong : new int[] {0, 6, -1, MIN, MAX}) {
            check.fails("p7 priority " + wrong, IllegalArgumentException.class, () -> deck.alarms(wrong));
        }
    }

    private static void promise8Top() {
        HandoverDeck deck = new HandoverDeck();
        deck.note();
        check.fails("p8 a note is no alarm", NoSuchElementException.class, () -> deck.top());
        deck.raise(6, 0, 2);
        deck.raise(7, 3, 4);
        deck.raise(0, 0, 4);
        deck.raise(3, 0, 3);
        check.same("p8 the first of the greatest", 2, deck.top());
        deck.shelve(7, 3, 1);
        check.same("p8 without the shelved one", 3, deck.top());
        deck.clear(0, 0);
        check.same("p8 without the cleared one", 4, deck.top());
        deck.pass(1);
        check.same("p8 shelved no more", 2, deck.top());
        deck.raise(0, 0, 4);
        check.same("p8 raised anew, it comes later", 2, deck.top());
        for (int unit : new int[] {0, 3, 6}) {
            deck.shelve(unit, 0, 1);
        }
        deck.shelve(7, 3, 1);
        check.fails("p8 all are shelved", NoSuchElementException.class, () -> deck.top());
    }
}
