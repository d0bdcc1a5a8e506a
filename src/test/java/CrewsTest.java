import java.util.NoSuchElementException;

/** Promises 23 to 32: crews, hand-overs, and hours. */
public final class CrewsTest {
    private static final Check check = new Check("crews");
    private static final int MIN = Integer.MIN_VALUE;
    private static final int MAX = Integer.MAX_VALUE;

    public static void main(String[] args) {
        promise23Begin();
        promise24HandOver();
        promise24HandOverRest();
        promise25Acknowledge();
        promise25AcknowledgeOpenedMeanwhile();
        promise26Take();
        promise27Cancel();
        promise28Pass();
        promise29Hour();
        promise30OnDuty();
        promise31IsTired();
        promise32RestLeft();
        check.end();
    }

    private static void promise23Begin() {
        HandoverDeck deck = new HandoverDeck();
        for (int wrong : new int[] {-1, 4, MIN, MAX}) {
            check.fails("p23 crew " + wrong, IllegalArgumentException.class, () -> deck.begin(wrong));
        }
        deck.pass(20);
        check.same("p23 the hour", 20, deck.begin(3));
        check.same("p23 on duty", 3, deck.onDuty());
        check.isFalse("p23 hour 0 of its shift", deck.isTired());
        check.fails("p23 a crew is on duty", IllegalStateException.class, () -> deck.begin(2));
        check.fails("p23 the same crew", IllegalStateException.class, () -> deck.begin(3));
        check.fails("p23 no such crew comes first", IllegalArgumentException.class, () -> deck.begin(4));
        check.same("p23 a throw changes no crew", 3, deck.onDuty());
    }

    private static void promise24HandOver() {
        HandoverDeck deck = new HandoverDeck();
        for (int wrong : new int[] {-1, 4, MIN, MAX}) {
            check.fails("p24 crew " + wrong, IllegalArgumentException.class, () -> deck.handOver(wrong));
        }
        check.fails("p24 no crew", IllegalStateException.class, () -> deck.handOver(0));
        deck.note();
        deck.note();
        deck.close(0);
        deck.begin(0);
        check.fails("p24 the crew on duty", IllegalStateException.class, () -> deck.handOver(0));
        check.same("p24 open lines", 1, deck.handOver(1));
        check.same("p24 the crew before is on duty still", 0, deck.onDuty());
        check.fails("p24 a hand-over goes on", IllegalStateException.class, () -> deck.handOver(2));
        check.fails("p24 to the same", IllegalStateException.class, () -> deck.handOver(1));
        check.fails("p24 no such crew comes first", IllegalArgumentException.class, () -> deck.handOver(4));
        deck.acknowledge(1);
        deck.take();
        check.same("p24 to the crew of the first call", 1, deck.onDuty());
    }

    private static void promise24HandOverRest() {
        HandoverDeck deck = new HandoverDeck();
        deck.begin(0);
        deck.handOver(1);
        deck.take();
        check.fails("p24 not rested", UnsupportedOperationException.class, () -> deck.handOver(0));
        check.fails("p24 on duty, though it came now", IllegalStateException.class, () -> deck.handOver(1));
        deck.pass(10);
        check.fails("p24 after 10 hours", UnsupportedOperationException.class, () -> deck.handOver(0));
        check.fails("p24 a throw begins none", IllegalStateException.class, () -> deck.take());
        deck.pass(1);
        check.same("p24 after 11 hours", 0, deck.handOver(0));
        check.fails("p24 goes on, before rested", IllegalStateException.class, () -> deck.handOver(2));
        deck.take();
        check.same("p24 it is on duty", 0, deck.onDuty());
        check.fails("p24 the other has ended its shift", UnsupportedOperationException.class, () -> deck.handOver(1));
        check.same("p24 a crew that was never on duty", 0, deck.handOver(3));
    }

    private static void promise25Acknowledge() {
        HandoverDeck deck = new HandoverDeck();
        for (int line = 0; line < 4; line++) {
            deck.note();
        }
        deck.close(1);
        check.fails("p25 no hand-over", IllegalStateException.class, () -> deck.acknowledge(0));
        for (int wrong : new int[] {-1, 4, 60, MIN, MAX}) {
            check.fails("p25 line " + wrong, NoSuchElementException.class, () -> deck.acknowledge(wrong));
        }
        deck.begin(0);
        deck.handOver(1);
        check.fails("p25 closed", IllegalStateException.class, () -> deck.acknowledge(1));
        check.same("p25 two are left", 2, deck.acknowledge(2));
        check.fails("p25 acknowledged", IllegalStateException.class, () -> deck.acknowledge(2));
        deck.close(2);
        check.fails("p25 acknowledged and closed", IllegalStateException.class, () -> deck.acknowledge(2));
        check.same("p25 one is left", 1, deck.acknowledge(0));
        check.same("p25 none is left", 0, deck.acknowledge(3));
        deck.take();
        check.fails("p25 after it is taken", IllegalStateException.class, () -> deck.acknowledge(0));
    }

    private static void promise25AcknowledgeOpenedMeanwhile() {
        HandoverDeck deck = new HandoverDeck();
        deck.begin(0);
        deck.handOver(1);
        deck.note();
        deck.raise(0, 0, 1);
        check.fails("p25 lines opened meanwhile", UnsupportedOperationException.class, () -> deck.take());
        check.same("p25 an alarm of meanwhile", 1, deck.acknowledge(1));
        check.same("p25 a note of meanwhile", 0, deck.acknowledge(0));
        deck.take();
        deck.handOver(2);
        check.fails("p25 each hand-over anew", UnsupportedOperationException.class, () -> deck.take());
        check.same("p25 acknowledged anew", 1, deck.acknowledge(0));
    }

    private static void promise26Take() {
        HandoverDeck deck = new HandoverDeck();
        check.fails("p26 no crew", IllegalStateException.class, () -> deck.take());
        deck.begin(2);
        check.fails("p26 no hand-over", IllegalStateException.class, () -> deck.take());
        deck.pass(12);
        deck.note();
        deck.note();
        deck.note();
        deck.handOver(0);
        deck.acknowledge(0);
        deck.acknowledge(2);
        check.fails("p26 one is not acknowledged", UnsupportedOperationException.class, () -> deck.take());
        check.same("p26 a throw keeps the crew", 2, deck.onDuty());
        deck.close(1);
        deck.close(0);
        check.same("p26 a closed line needs none", 1, deck.take());
        check.same("p26 the other crew", 0, deck.onDuty());
        check.isFalse("p26 hour 0 of its shift", deck.isTired());
        check.same("p26 the one before rests", 11, deck.restLeft(2));
        check.same("p26 an open line has passed one", 1, deck.passed(2));
        check.same("p26 a closed line has not", 0, deck.passed(0));
        check.fails("p26 taken", IllegalStateException.class, () -> deck.take());
        check.same("p26 without open lines", 0, deck.close(2));
        deck.handOver(1);
        check.same("p26 nothing to acknowledge", 0, deck.take());
    }

    private static void promise27Cancel() {
        HandoverDeck deck = new HandoverDeck();
        check.fails("p27 no hand-over", IllegalStateException.class, () -> deck.cancel());
        deck.begin(0);
        for (int line = 0; line < 4; line++) {
            deck.note();
        }
        deck.handOver(1);
        deck.acknowledge(0);
        deck.acknowledge(1);
        deck.acknowledge(3);
        deck.close(3);
        check.same("p27 acknowledged and open", 2, deck.cancel());
        check.fails("p27 cancelled", IllegalStateException.class, () -> deck.cancel());
        check.same("p27 the crew stays", 0, deck.onDuty());
        check.same("p27 it has not ended its shift", 0, deck.restLeft(0));
        check.same("p27 nothing is passed", 0, deck.passed(0));
        deck.handOver(2);
        check.same("p27 nothing is acknowledged any more", 2, deck.acknowledge(0));
        check.same("p27 one is", 1, deck.cancel());
        deck.handOver(2);
        check.same("p27 none is", 0, deck.cancel());
    }

    private static void promise28Pass() {
        HandoverDeck deck = new HandoverDeck();
        for (int wrong : new int[] {0, 49, -1, MIN, MAX}) {
            check.fails("p28 hours " + wrong, IllegalArgumentException.class, () -> deck.pass(wrong));
        }
        check.same("p28 a throw passes none", 0, deck.hour());
        check.same("p28 no alarms", 0, deck.pass(48));
        for (int unit = 0; unit < 5; unit++) {
            deck.raise(unit, 0, 1);
        }
        deck.shelve(0, 0, 1);
        deck.shelve(1, 0, 3);
        deck.shelve(2, 0, 3);
        deck.shelve(3, 0, 4);
        deck.clear(2, 0);
        check.same("p28 the first", 1, deck.pass(2));
        check.same("p28 at its hour, and not the cleared one", 1, deck.pass(1));
        check.same("p28 the last", 1, deck.pass(48));
        check.same("p28 no more", 0, deck.pass(1));
    }

    private static void promise29Hour() {
        HandoverDeck deck = new HandoverDeck();
        deck.pass(1);
        deck.pass(48);
        check.same("p29 the sum", 49, deck.hour());
        deck.begin(0);
        deck.handOver(1);
        deck.pass(5);
        check.same("p29 in a hand-over too", 54, deck.hour());
    }

    private static void promise30OnDuty() {
        HandoverDeck deck = new HandoverDeck();
        check.fails("p30 none", NoSuchElementException.class, () -> deck.onDuty());
        deck.begin(0);
        check.same("p30 crew 0", 0, deck.onDuty());
        deck.handOver(3);
        check.same("p30 in a hand-over", 0, deck.onDuty());
        deck.take();
        check.same("p30 crew 3", 3, deck.onDuty());
    }

    private static void promise31IsTired() {
        HandoverDeck deck = new HandoverDeck();
        deck.pass(12);
        check.isFalse("p31 without a crew", deck.isTired());
        deck.begin(0);
        deck.pass(11);
        check.isFalse("p31 after 11 hours", deck.isTired());
        deck.handOver(1);
        deck.pass(1);
        check.isTrue("p31 after 12 hours, in a hand-over", deck.isTired());
        deck.take();
        check.isFalse("p31 the other crew", deck.isTired());
        deck.pass(48);
        check.isTrue("p31 after more", deck.isTired());
    }

    private static void promise32RestLeft() {
        HandoverDeck deck = new HandoverDeck();
        for (int wrong : new int[] {-1, 4, MIN, MAX}) {
            check.fails("p32 crew " + wrong, IllegalArgumentException.class, () -> deck.restLeft(wrong));
        }
        check.same("p32 never on duty", 0, deck.restLeft(1));
        deck.begin(1);
        deck.pass(3);
        check.same("p32 on duty", 0, deck.restLeft(1));
        deck.handOver(2);
        check.same("p32 in a hand-over", 0, deck.restLeft(1));
        deck.take();
        check.same("p32 at the end of its shift", 11, deck.restLeft(1));
        check.same("p32 the other", 0, deck.restLeft(2));
        deck.pass(4);
        check.same("p32 after 4 hours", 7, deck.restLeft(1));
        deck.pass(6);
        check.same("p32 after 10 hours", 1, deck.restLeft(1));
        deck.pass(1);
        check.same("p32 after 11 hours", 0, deck.restLeft(1));
        deck.pass(1);
        check.same("p32 after more", 0, deck.restLeft(1));
    }
}
