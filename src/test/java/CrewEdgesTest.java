/** The boundary cases of promises 23 to 32. */
public final class CrewEdgesTest extends Edges {
    private CrewEdgesTest() {
        super("edges of crews");
    }

    public static void main(String[] args) {
        new CrewEdgesTest().runAll(23, 32);
    }

    private static HandoverDeck onDuty(int crew) {
        HandoverDeck deck = new HandoverDeck();
        deck.begin(crew);
        return deck;
    }

    /** Crew 0 has ended its shift so many hours ago, crew 1 is on duty. */
    private static HandoverDeck restedFor(int hours) {
        HandoverDeck deck = onDuty(0);
        Decks.change(deck, 1);
        if (hours > 0) {
            deck.pass(hours);
        }
        return deck;
    }

    private static HandoverDeck inHandOver(HandoverDeck deck, int crew) {
        deck.handOver(crew);
        return deck;
    }

    /** A hand-over with so many open lines, none of which is acknowledged. */
    private static HandoverDeck withOpenLines(int count) {
        HandoverDeck deck = Decks.withNotes(count);
        deck.begin(0);
        deck.handOver(1);
        return deck;
    }

    /** As withOpenLines, and the first so many are acknowledged. */
    private static HandoverDeck withAcknowledged(int count, int acknowledged) {
        HandoverDeck deck = withOpenLines(count);
        for (int line = 0; line < acknowledged; line++) {
            deck.acknowledge(line);
        }
        return deck;
    }

    private static HandoverDeck withShelved(int hours) {
        HandoverDeck deck = new HandoverDeck();
        deck.raise(7, 3, 1);
        deck.shelve(7, 3, hours);
        return deck;
    }

    private static HandoverDeck late(HandoverDeck deck) {
        for (int call = 0; call < 300; call++) {
            deck.pass(48);
        }
        return deck;
    }

    void promise23NoSuchCrew() {
        range(0, 3, ARGUMENT, HandoverDeck::new, HandoverDeck::begin);
        range(0, 3, ARGUMENT, Decks::unmanned, HandoverDeck::begin);
    }

    void promise23EachCrew() {
        for (int crew = 0; crew < 4; crew++) {
            same("crew " + crew, crew, onDuty(crew).onDuty());
        }
    }

    void promise23ACrewIsOnDuty() {
        for (int crew = 0; crew < 4; crew++) {
            int number = crew;
            refused("the same", STATE, () -> onDuty(number), deck -> deck.begin(number));
            refused("crew 0 is", STATE, () -> onDuty(0), deck -> deck.begin(number));
            refused("in a hand-over", STATE, Decks::handingOver, deck -> deck.begin(number));
            refused("tired", STATE, Decks::tired, deck -> deck.begin(number));
            refused("all places taken", STATE, Decks::full, deck -> deck.begin(number));
        }
    }

    void promise23CrewBeforeOnDuty() {
        outside(0, 3, ARGUMENT, Decks::busy, HandoverDeck::begin);
        outside(0, 3, ARGUMENT, Decks::handingOver, HandoverDeck::begin);
        outside(0, 3, ARGUMENT, Decks::full, HandoverDeck::begin);
    }

    void promise23TheHour() {
        same("hour 0", 0, new HandoverDeck().begin(0));
        same("late", 300 * 48, late(new HandoverDeck()).begin(3));
    }

    void promise24NoSuchCrew() {
        range(0, 3, ARGUMENT, () -> onDuty(2), HandoverDeck::handOver);
        outside(0, 3, ARGUMENT, Decks::tired, HandoverDeck::handOver);
        outside(0, 3, ARGUMENT, Decks::full, HandoverDeck::handOver);
    }

    void promise24NoCrew() {
        for (int crew = 0; crew < 4; crew++) {
            int number = crew;
            refused("on a new deck", STATE, HandoverDeck::new, deck -> deck.handOver(number));
            refused("no crew", STATE, Decks::unmanned, deck -> deck.handOver(number));
        }
    }

    void promise24AHandOverGoesOn() {
        for (int crew = 0; crew < 4; crew++) {
            int number = crew;
            refused("to crew " + crew, STATE, Decks::handingOver, deck -> deck.handOver(number));
        }
        HandoverDeck cancelled = Decks.handingOver();
        int open = cancelled.openLines();
        cancelled.cancel();
        same("cancelled", open, cancelled.handOver(3));
        HandoverDeck taken = withAcknowledged(1, 1);
        taken.take();
        same("taken", 1, taken.handOver(2));
    }

    void promise24TheCrewOnDuty() {
        for (int crew = 0; crew < 4; crew++) {
            int number = crew;
            refused("crew " + crew, STATE, () -> onDuty(number), deck -> deck.handOver(number));
        }
        refused("after a hand-over", STATE, () -> restedFor(0), deck -> deck.handOver(1));
        refused("tired", STATE, Decks::tired, deck -> deck.handOver(1));
    }

    void promise24RestedAfter11Hours() {
        refused("0 hours", UNSUPPORTED, () -> restedFor(0), deck -> deck.handOver(0));
        refused("10 hours", UNSUPPORTED, () -> restedFor(10), deck -> deck.handOver(0));
        same("11 hours", 0, restedFor(11).handOver(0));
        same("12 hours", 0, restedFor(12).handOver(0));
        same("never on duty", 0, restedFor(0).handOver(3));
    }

    /** The end of the shift counts, not its beginning, nor the beginning of the hand-over. */
    void promise24RestBeginsWhenItIsTaken() {
        refused("a long shift before", UNSUPPORTED, CrewEdgesTest::afterLongShift, deck -> deck.handOver(0));
        HandoverDeck deck = afterLongShift();
        deck.pass(1);
        same("an hour later", 0, deck.handOver(0));
    }

    private static HandoverDeck afterLongShift() {
        HandoverDeck deck = onDuty(0);
        deck.pass(48);
        deck.handOver(1);
        deck.pass(48);
        deck.take();
        deck.pass(10);
        return deck;
    }

    /** A crew that was on duty twice rests from the end of its last shift on. */
    void promise24RestOfTheLastShift() {
        HandoverDeck deck = restedFor(11);
        Decks.change(deck, 0);
        Decks.change(deck, 2);
        same("its rest", 11, deck.restLeft(0));
        deck.pass(11);
        same("both are rested", 0, deck.handOver(0));
    }

    void promise24CrewBeforeState() {
        outside(0, 3, ARGUMENT, HandoverDeck::new, HandoverDeck::handOver);
        outside(0, 3, ARGUMENT, Decks::handingOver, HandoverDeck::handOver);
    }

    void promise24HandOverBeforeRest() {
        refused("crew 0 rests", STATE, () -> inHandOver(restedFor(0), 2), deck -> deck.handOver(0));
        refused("crew 0 rests, its last hour", STATE, () -> inHandOver(restedFor(10), 2), deck -> deck.handOver(0));
    }

    void promise24NoneAndAllOpenLines() {
        same("no lines", 0, onDuty(0).handOver(1));
        same("60 closed lines", 0, Decks.withClosedNotes(60).handOver(1));
        HandoverDeck deck = Decks.withNotes(60);
        deck.begin(0);
        same("60 open lines", 60, deck.handOver(1));
    }

    void promise25NoSuchLine() {
        range(0, 0, ELEMENT, () -> withOpenLines(1), HandoverDeck::acknowledge);
        range(0, 58, ELEMENT, () -> withOpenLines(59), HandoverDeck::acknowledge);
        range(0, 59, ELEMENT, () -> withOpenLines(60), HandoverDeck::acknowledge);
        outside(0, -1, ELEMENT, () -> withOpenLines(0), HandoverDeck::acknowledge);
    }

    void promise25NoHandOver() {
        refused("no crew", STATE, () -> Decks.withNotes(1), deck -> deck.acknowledge(0));
        refused("none yet", STATE, Decks::busy, deck -> deck.acknowledge(0));
        refused("cancelled", STATE, CrewEdgesTest::afterCancel, deck -> deck.acknowledge(1));
        refused("taken", STATE, CrewEdgesTest::afterTake, deck -> deck.acknowledge(0));
        refused("all places taken", STATE, Decks::full, deck -> deck.acknowledge(59));
    }

    private static HandoverDeck afterCancel() {
        HandoverDeck deck = withAcknowledged(2, 1);
        deck.cancel();
        return deck;
    }

    private static HandoverDeck afterTake() {
        HandoverDeck deck = withAcknowledged(2, 2);
        deck.take();
        return deck;
    }

    void promise25Closed() {
        refused("closed before", STATE, Decks::handingOver, deck -> deck.acknowledge(3));
        refused("closed in it", STATE, CrewEdgesTest::closedInIt, deck -> deck.acknowledge(59));
        refused("acknowledged and closed", STATE, CrewEdgesTest::closedInIt, deck -> deck.acknowledge(0));
    }

    private static HandoverDeck closedInIt() {
        HandoverDeck deck = withAcknowledged(60, 1);
        deck.close(0);
        deck.close(59);
        return deck;
    }

    void promise25Acknowledged() {
        refused("the only one", STATE, () -> withAcknowledged(1, 1), deck -> deck.acknowledge(0));
        refused("the first of all", STATE, () -> withAcknowledged(60, 60), deck -> deck.acknowledge(0));
        refused("the last of all", STATE, () -> withAcknowledged(60, 60), deck -> deck.acknowledge(59));
    }

    void promise25AcknowledgedInAnother() {
        HandoverDeck cancelled = inHandOver(afterCancel(), 1);
        same("in a cancelled one", 1, cancelled.acknowledge(0));
        HandoverDeck taken = inHandOver(afterTake(), 2);
        same("in a taken one", 1, taken.acknowledge(0));
    }

    void promise25LineBeforeState() {
        outside(0, -1, ELEMENT, HandoverDeck::new, HandoverDeck::acknowledge);
        outside(0, 5, ELEMENT, Decks::unmanned, HandoverDeck::acknowledge);
        outside(0, 59, ELEMENT, Decks::full, HandoverDeck::acknowledge);
    }

    void promise25HowManyAreLeft() {
        HandoverDeck deck = withOpenLines(60);
        for (int line = 59; line >= 0; line--) {
            same("left", line, deck.acknowledge(line));
        }
    }

    void promise25OpenedAsItGoesOn() {
        HandoverDeck deck = withAcknowledged(59, 59);
        deck.note();
        refused("it is to be acknowledged", UNSUPPORTED, CrewEdgesTest::withLineOpenedInIt, HandoverDeck::take);
        same("the last line", 0, deck.acknowledge(59));
        same("all are", 60, deck.take());
    }

    private static HandoverDeck withLineOpenedInIt() {
        HandoverDeck deck = withAcknowledged(59, 59);
        deck.raise(0, 0, 1);
        return deck;
    }

    void promise26NoHandOver() {
        refused("on a new deck", STATE, HandoverDeck::new, HandoverDeck::take);
        refused("no crew", STATE, Decks::unmanned, HandoverDeck::take);
        refused("none yet", STATE, () -> onDuty(0), HandoverDeck::take);
        refused("cancelled", STATE, CrewEdgesTest::afterCancel, HandoverDeck::take);
        refused("taken", STATE, CrewEdgesTest::afterTake, HandoverDeck::take);
    }

    void promise26OneIsNotAcknowledged() {
        refused("the only one", UNSUPPORTED, () -> withOpenLines(1), HandoverDeck::take);
        refused("none of all", UNSUPPORTED, () -> withOpenLines(60), HandoverDeck::take);
        refused("all but the last", UNSUPPORTED, () -> withAcknowledged(60, 59), HandoverDeck::take);
        refused("all but the first", UNSUPPORTED, CrewEdgesTest::allButTheFirst, HandoverDeck::take);
        same("no lines", 0, withOpenLines(0).take());
        same("the only one is", 1, withAcknowledged(1, 1).take());
        same("all are", 60, withAcknowledged(60, 60).take());
    }

    private static HandoverDeck allButTheFirst() {
        HandoverDeck deck = withOpenLines(60);
        for (int line = 1; line < 60; line++) {
            deck.acknowledge(line);
        }
        return deck;
    }

    void promise26ClosedNeedsNone() {
        HandoverDeck last = withAcknowledged(60, 59);
        last.close(59);
        same("the last is closed", 59, last.take());
        refused("an acknowledged one is closed", UNSUPPORTED, CrewEdgesTest::acknowledgedClosed, HandoverDeck::take);
    }

    /** One of two lines was acknowledged and closed, the other is open and not acknowledged. */
    private static HandoverDeck acknowledgedClosed() {
        HandoverDeck deck = withAcknowledged(2, 1);
        deck.close(0);
        return deck;
    }

    void promise26NoHandOverBeforeNotAcknowledged() {
        refused("open lines", STATE, Decks::busy, HandoverDeck::take);
        refused("all places taken", STATE, Decks::full, HandoverDeck::take);
    }

    void promise26EachCrew() {
        for (int crew = 0; crew < 4; crew++) {
            HandoverDeck deck = inHandOver(onDuty((crew + 1) % 4), crew);
            deck.take();
            same("crew " + crew, crew, deck.onDuty());
            same("the one before rests", 11, deck.restLeft((crew + 1) % 4));
        }
    }

    void promise26HourZeroOfItsShift() {
        HandoverDeck deck = onDuty(0);
        deck.pass(12);
        deck.handOver(1);
        deck.pass(12);
        deck.take();
        isFalse("hour 0", deck.isTired());
        deck.pass(11);
        isFalse("11 hours", deck.isTired());
        deck.pass(1);
        isTrue("12 hours", deck.isTired());
    }

    void promise27NoHandOver() {
        refused("on a new deck", STATE, HandoverDeck::new, HandoverDeck::cancel);
        refused("no crew", STATE, Decks::unmanned, HandoverDeck::cancel);
        refused("none yet", STATE, Decks::busy, HandoverDeck::cancel);
        refused("cancelled", STATE, CrewEdgesTest::afterCancel, HandoverDeck::cancel);
        refused("taken", STATE, CrewEdgesTest::afterTake, HandoverDeck::cancel);
        refused("all places taken", STATE, Decks::full, HandoverDeck::cancel);
    }

    void promise27NoneAndAllAcknowledged() {
        same("no lines", 0, withOpenLines(0).cancel());
        same("none of all", 0, withOpenLines(60).cancel());
        same("one of all", 1, withAcknowledged(60, 1).cancel());
        same("all of all", 60, withAcknowledged(60, 60).cancel());
    }

    void promise27ClosedDoesNotCount() {
        same("one of two is closed", 0, acknowledgedClosed().cancel());
        same("of all", 0, closedInIt().cancel());
        HandoverDeck deck = withAcknowledged(60, 60);
        deck.close(0);
        deck.close(59);
        same("first and last are closed", 58, deck.cancel());
    }

    void promise27NothingIsAcknowledgedAnyMore() {
        HandoverDeck deck = withAcknowledged(60, 60);
        deck.cancel();
        deck.handOver(2);
        same("left of all", 59, deck.acknowledge(59));
        same("acknowledged anew", 1, deck.cancel());
    }

    void promise28HoursOutOfRange() {
        for (Decks.Maker maker : Decks.ALL) {
            range(1, 48, ARGUMENT, maker, HandoverDeck::pass);
        }
    }

    void promise28NoneAndAllShelved() {
        HandoverDeck deck = new HandoverDeck();
        same("no alarms", 0, deck.pass(1));
        Decks.raiseAll(deck);
        same("none is shelved", 0, deck.pass(48));
        for (int alarm = 0; alarm < 32; alarm++) {
            deck.shelve(alarm / 4, alarm % 4, alarm < 16 ? 1 : 24);
        }
        same("the least hours", 16, deck.pass(1));
        same("not yet", 0, deck.pass(22));
        same("the greatest hours", 16, deck.pass(1));
        same("no more", 0, deck.pass(48));
    }

    void promise28InTheHourOfTheEnd() {
        for (int hours : new int[] {2, 24}) {
            HandoverDeck deck = withShelved(hours);
            same("an hour before", 0, deck.pass(hours - 1));
            same("its hour", 1, deck.pass(1));
            same("an hour later", 0, deck.pass(1));
            same("past its hour", 1, withShelved(hours).pass(48));
            same("at its hour at once", 1, withShelved(hours).pass(hours));
        }
    }

    void promise28ClearedIsNotShelvedNoMore() {
        HandoverDeck deck = withShelved(1);
        deck.clear(7, 3);
        same("cleared", 0, deck.pass(1));
        HandoverDeck raised = withShelved(1);
        raised.clear(7, 3);
        raised.raise(7, 3, 1);
        same("raised anew", 0, raised.pass(1));
    }

    void promise29FirstAndLastHour() {
        same("a new deck", 0, new HandoverDeck().hour());
        HandoverDeck least = new HandoverDeck();
        least.pass(1);
        same("least", 1, least.hour());
        HandoverDeck most = new HandoverDeck();
        for (int call = 1; call < 512; call++) {
            most.pass(48);
        }
        same("the 512th call", 511 * 48, most.hour());
    }

    void promise30None() {
        refused("on a new deck", ELEMENT, HandoverDeck::new, HandoverDeck::onDuty);
        refused("no crew", ELEMENT, Decks::unmanned, HandoverDeck::onDuty);
    }

    void promise30EachCrew() {
        for (int crew = 0; crew < 4; crew++) {
            HandoverDeck deck = onDuty(crew);
            same("begun", crew, deck.onDuty());
            deck.handOver((crew + 1) % 4);
            same("in a hand-over", crew, deck.onDuty());
            deck.cancel();
            same("cancelled", crew, deck.onDuty());
            deck.handOver((crew + 2) % 4);
            deck.take();
            same("taken", (crew + 2) % 4, deck.onDuty());
        }
    }

    void promise31WithoutACrew() {
        isFalse("hour 0", new HandoverDeck().isTired());
        isFalse("late", late(new HandoverDeck()).isTired());
    }

    void promise31After12Hours() {
        for (int before : new int[] {0, 1, 48}) {
            HandoverDeck deck = new HandoverDeck();
            if (before > 0) {
                deck.pass(before);
            }
            deck.begin(0);
            isFalse("hour 0", deck.isTired());
            deck.pass(11);
            isFalse("11 hours", deck.isTired());
            deck.pass(1);
            isTrue("12 hours", deck.isTired());
            deck.pass(1);
            isTrue("13 hours", deck.isTired());
        }
        isTrue("late", late(onDuty(3)).isTired());
    }

    void promise32NoSuchCrew() {
        for (Decks.Maker maker : Decks.ALL) {
            range(0, 3, ARGUMENT, maker, HandoverDeck::restLeft);
        }
    }

    void promise32From11To0() {
        for (int hours = 0; hours <= 14; hours++) {
            same("after " + hours, hours < 11 ? 11 - hours : 0, restedFor(hours).restLeft(0));
        }
        same("late", 0, late(restedFor(0)).restLeft(0));
    }

    void promise32NeverOnDuty() {
        for (int crew = 0; crew < 4; crew++) {
            same("on a new deck", 0, new HandoverDeck().restLeft(crew));
            same("late", 0, late(new HandoverDeck()).restLeft(crew));
        }
        same("crew 0 rests, not crew 2", 0, restedFor(0).restLeft(2));
    }

    void promise32OnDuty() {
        for (int crew = 0; crew < 4; crew++) {
            same("crew " + crew, 0, onDuty(crew).restLeft(crew));
        }
        HandoverDeck again = restedFor(11);
        Decks.change(again, 0);
        same("on duty again", 0, again.restLeft(0));
        same("the other", 11, again.restLeft(1));
        same("late in a hand-over", 0, inHandOver(late(onDuty(0)), 1).restLeft(0));
    }
}
