/** The boundary cases of promises 1 to 8. */
public final class AlarmEdgesTest extends Edges {
    private AlarmEdgesTest() {
        super("edges of alarms");
    }

    public static void main(String[] args) {
        new AlarmEdgesTest().runAll(1, 8);
    }

    /** Alarms at all units and kinds but 7 and 3, and 59 lines. */
    private static HandoverDeck with59Lines() {
        HandoverDeck deck = new HandoverDeck();
        for (int alarm = 0; alarm < 31; alarm++) {
            deck.raise(alarm / 4, alarm % 4, 2);
        }
        for (int line = 31; line < 59; line++) {
            deck.close(deck.note());
        }
        return deck;
    }

    private static HandoverDeck with60Lines() {
        HandoverDeck deck = with59Lines();
        deck.close(deck.note());
        return deck;
    }

    private static HandoverDeck withAllAlarms() {
        HandoverDeck deck = new HandoverDeck();
        Decks.raiseAll(deck);
        return deck;
    }

    /** Alarm 1, 1 is raised at hour 10, and shelved for so many hours. */
    private static HandoverDeck withShelved(int hours) {
        HandoverDeck deck = new HandoverDeck();
        deck.pass(10);
        deck.raise(1, 1, 1);
        deck.shelve(1, 1, hours);
        return deck;
    }

    void promise1Hour0() {
        same("hour", 0, new HandoverDeck().hour());
    }

    void promise1WithoutProcedures() {
        for (int procedure = 0; procedure < 6; procedure++) {
            int number = procedure;
            refused("done", ELEMENT, HandoverDeck::new, deck -> deck.done(number));
            refused("reset", ELEMENT, HandoverDeck::new, deck -> deck.reset(number));
        }
        refused("drill", ELEMENT, HandoverDeck::new, HandoverDeck::drill);
    }

    void promise1WithoutPermits() {
        for (int permit = 0; permit < 8; permit++) {
            int number = permit;
            refused("isPermitOpen", ELEMENT, HandoverDeck::new, deck -> deck.isPermitOpen(number));
            refused("closePermit", ELEMENT, HandoverDeck::new, deck -> deck.closePermit(number));
        }
    }

    void promise1WithoutLines() {
        HandoverDeck deck = new HandoverDeck();
        same("openLines", 0, deck.openLines());
        same("openByLog", 0, deck.openByLog());
        for (int line = 0; line < 60; line++) {
            int number = line;
            refused("kindOf", ELEMENT, HandoverDeck::new, fresh -> fresh.kindOf(number));
        }
        refused("openAt", INDEX, HandoverDeck::new, fresh -> fresh.openAt(0));
    }

    void promise1WithoutCrewAndAlarms() {
        refused("onDuty", ELEMENT, HandoverDeck::new, HandoverDeck::onDuty);
        refused("top", ELEMENT, HandoverDeck::new, HandoverDeck::top);
        same("alarms", 0, new HandoverDeck().alarms(1));
        isTrue("sound", new HandoverDeck().isSound());
    }

    void promise1ObjectsAreApart() {
        String before = Looks.at(new HandoverDeck(), 0);
        HandoverDeck other = new HandoverDeck();
        Decks.full();
        same("another object", before, Looks.at(other, 0));
    }

    void promise2UnitOutOfRange() {
        for (Decks.Maker maker : Decks.ALL) {
            range(0, 7, INDEX, maker, HandoverDeck::state);
        }
    }

    void promise2FirstStateIs0() {
        for (int unit = 0; unit < 8; unit++) {
            same("unit " + unit, 0, new HandoverDeck().state(unit));
        }
    }

    void promise2LeastAndGreatestState() {
        for (int unit = 0; unit < 8; unit++) {
            HandoverDeck deck = new HandoverDeck();
            deck.begin(0);
            Decks.addProcedure(deck, new int[][] {{unit, 0, unit, 3}, {unit, 3, unit, 0}});
            deck.step(0);
            for (int other = 0; other < 8; other++) {
                same("greatest at " + unit + ", unit " + other, other == unit ? 3 : 0, deck.state(other));
            }
            deck.step(0);
            same("least at " + unit, 0, deck.state(unit));
        }
    }

    void promise3UnitOutOfRange() {
        for (Decks.Maker maker : Decks.WITH_ROOM) {
            range(0, 7, INDEX, maker, (deck, unit) -> deck.raise(unit, 1, 1));
        }
    }

    void promise3KindOutOfRange() {
        for (Decks.Maker maker : Decks.WITH_ROOM) {
            range(0, 3, INDEX, maker, (deck, kind) -> deck.raise(4, kind, 1));
        }
    }

    void promise3PriorityOutOfRange() {
        for (Decks.Maker maker : Decks.WITH_ROOM) {
            range(1, 5, ARGUMENT, maker, (deck, priority) -> deck.raise(4, 0, priority));
        }
    }

    /** Together these unit and kind would make the number of another alarm. */
    void promise3UnitAndKindOutOfRange() {
        refused("unit too small, kind too great", INDEX, Decks::unmanned, deck -> deck.raise(-1, 4, 1));
        refused("kind too great", INDEX, Decks::unmanned, deck -> deck.raise(0, 4, 1));
        refused("kind too great of the last unit", INDEX, Decks::unmanned, deck -> deck.raise(7, 4, 1));
        refused("unit too great, kind too small", INDEX, Decks::unmanned, deck -> deck.raise(8, -1, 1));
        refused("kind too small", INDEX, Decks::unmanned, deck -> deck.raise(1, -1, 1));
    }

    void promise3EachUnitAndKind() {
        HandoverDeck deck = new HandoverDeck();
        for (int alarm = 0; alarm < 32; alarm++) {
            same("line", alarm, deck.raise(alarm / 4, alarm % 4, 1));
            same("so many are active", alarm + 1, deck.alarms(1));
        }
    }

    void promise3Active() {
        refused("the first alarm", STATE, Decks::unmanned, deck -> deck.raise(0, 0, 1));
        refused("the last alarm", STATE, Decks::unmanned, deck -> deck.raise(7, 3, 5));
        refused("it is shelved", STATE, Decks::busy, deck -> deck.raise(3, 2, 5));
        refused("in a hand-over", STATE, Decks::handingOver, deck -> deck.raise(3, 1, 4));
        for (int alarm = 0; alarm < 32; alarm++) {
            int number = alarm;
            refused("all are active", STATE, AlarmEdgesTest::withAllAlarms,
                    deck -> deck.raise(number / 4, number % 4, 3));
        }
    }

    void promise3ActiveNoMore() {
        HandoverDeck deck = withAllAlarms();
        deck.clear(7, 3);
        same("cleared", 32, deck.raise(7, 3, 5));
        deck.clear(0, 0);
        same("cleared and raised anew", 33, deck.raise(0, 0, 1));
    }

    void promise3SixtyLines() {
        HandoverDeck deck = with59Lines();
        same("the last line", 59, deck.raise(7, 3, 1));
        same("its kind", 'a', deck.kindOf(59));
        refused("60 lines, most of them closed", STATE, AlarmEdgesTest::with60Lines, full -> full.raise(7, 3, 1));
        refused("60 open lines", STATE, () -> Decks.withNotes(60), full -> full.raise(0, 0, 1));
        refused("all places taken", STATE, Decks::full, full -> full.raise(0, 0, 1));
    }

    void promise3UnitBeforePriority() {
        refused("unit 8, priority 6", INDEX, Decks::busy, deck -> deck.raise(8, 0, 6));
        refused("kind -1, priority 0", INDEX, Decks::busy, deck -> deck.raise(0, -1, 0));
    }

    void promise3UnitBeforeSixtyLines() {
        refused("unit -1", INDEX, Decks::full, deck -> deck.raise(-1, 0, 1));
        refused("kind 4", INDEX, Decks::full, deck -> deck.raise(0, 4, 1));
    }

    void promise3PriorityBeforeActive() {
        refused("priority 0", ARGUMENT, Decks::unmanned, deck -> deck.raise(0, 0, 0));
        refused("priority 6", ARGUMENT, Decks::unmanned, deck -> deck.raise(7, 3, 6));
    }

    void promise3PriorityBeforeSixtyLines() {
        refused("priority 0", ARGUMENT, AlarmEdgesTest::with60Lines, deck -> deck.raise(7, 3, 0));
        refused("priority 6", ARGUMENT, AlarmEdgesTest::with60Lines, deck -> deck.raise(7, 3, 6));
    }

    void promise4UnitOutOfRange() {
        range(0, 7, INDEX, Decks::full, (deck, unit) -> deck.clear(unit, 3));
        for (Decks.Maker maker : Decks.WITH_ROOM) {
            outside(0, 7, INDEX, maker, (deck, unit) -> deck.clear(unit, 0));
        }
    }

    void promise4KindOutOfRange() {
        range(0, 3, INDEX, Decks::full, (deck, kind) -> deck.clear(7, kind));
        for (Decks.Maker maker : Decks.WITH_ROOM) {
            outside(0, 3, INDEX, maker, (deck, kind) -> deck.clear(0, kind));
        }
    }

    void promise4UnitAndKindOutOfRange() {
        refused("unit too small, kind too great", INDEX, Decks::full, deck -> deck.clear(-1, 4));
        refused("kind too great", INDEX, Decks::full, deck -> deck.clear(0, 4));
        refused("kind too small", INDEX, Decks::full, deck -> deck.clear(1, -1));
    }

    void promise4NotActive() {
        refused("on a new deck, the first", ELEMENT, HandoverDeck::new, deck -> deck.clear(0, 0));
        refused("on a new deck, the last", ELEMENT, HandoverDeck::new, deck -> deck.clear(7, 3));
        refused("another kind", ELEMENT, Decks::unmanned, deck -> deck.clear(0, 1));
        refused("another unit", ELEMENT, Decks::unmanned, deck -> deck.clear(1, 0));
        refused("cleared before", ELEMENT, Decks::busy, deck -> deck.clear(5, 2));
        refused("without room", ELEMENT, AlarmEdgesTest::with60Lines, deck -> deck.clear(7, 3));
    }

    void promise4EachOfAll() {
        HandoverDeck deck = withAllAlarms();
        for (int alarm = 31; alarm >= 0; alarm--) {
            same("line", alarm, deck.clear(alarm / 4, alarm % 4));
            same("so many are active", alarm, deck.alarms(1));
            same("so many are open", alarm, deck.openLines());
        }
    }

    void promise4WithAllPlacesTaken() {
        HandoverDeck deck = with59Lines();
        deck.raise(7, 3, 1);
        same("the last line", 59, deck.clear(7, 3));
        same("its alarm is active no more", 31, deck.alarms(1));
    }

    void promise4UnitBeforeNotActive() {
        refused("unit 8", INDEX, HandoverDeck::new, deck -> deck.clear(8, 0));
        refused("kind 4", INDEX, HandoverDeck::new, deck -> deck.clear(0, 4));
    }

    void promise5UnitOutOfRange() {
        range(0, 7, INDEX, Decks::full, (deck, unit) -> deck.shelve(unit, 3, 1));
        for (Decks.Maker maker : Decks.WITH_ROOM) {
            outside(0, 7, INDEX, maker, (deck, unit) -> deck.shelve(unit, 0, 1));
        }
    }

    void promise5KindOutOfRange() {
        range(0, 3, INDEX, Decks::full, (deck, kind) -> deck.shelve(7, kind, 24));
        for (Decks.Maker maker : Decks.WITH_ROOM) {
            outside(0, 3, INDEX, maker, (deck, kind) -> deck.shelve(0, kind, 24));
        }
    }

    void promise5UnitAndKindOutOfRange() {
        refused("unit too small, kind too great", INDEX, Decks::full, deck -> deck.shelve(-1, 4, 1));
        refused("kind too great", INDEX, Decks::full, deck -> deck.shelve(0, 4, 1));
        refused("kind too small", INDEX, Decks::full, deck -> deck.shelve(1, -1, 1));
    }

    void promise5NotActive() {
        refused("on a new deck", ELEMENT, HandoverDeck::new, deck -> deck.shelve(0, 0, 1));
        refused("another kind", ELEMENT, Decks::unmanned, deck -> deck.shelve(7, 2, 1));
        refused("another unit", ELEMENT, Decks::unmanned, deck -> deck.shelve(6, 3, 1));
        refused("cleared", ELEMENT, Decks::busy, deck -> deck.shelve(5, 2, 24));
        refused("without room", ELEMENT, AlarmEdgesTest::with60Lines, deck -> deck.shelve(7, 3, 24));
    }

    void promise5HoursOutOfRange() {
        range(1, 24, ARGUMENT, Decks::unmanned, (deck, hours) -> deck.shelve(7, 3, hours));
        range(1, 24, ARGUMENT, Decks::handingOver, (deck, hours) -> deck.shelve(3, 1, hours));
        range(1, 24, ARGUMENT, Decks::full, (deck, hours) -> deck.shelve(0, 0, hours));
    }

    void promise5HourOfTheEnd() {
        HandoverDeck deck = withAllAlarms();
        same("least hours", 1, deck.shelve(0, 0, 1));
        same("greatest hours", 24, deck.shelve(7, 3, 24));
        for (int call = 0; call < 400; call++) {
            deck.pass(48);
        }
        same("late, least hours", 400 * 48 + 1, deck.shelve(0, 0, 1));
        same("late, greatest hours", 400 * 48 + 24, deck.shelve(7, 3, 24));
    }

    void promise5Shelved() {
        for (int hours : new int[] {1, 24}) {
            refused("in its first hour", STATE, () -> withShelved(hours), deck -> deck.shelve(1, 1, 24));
        }
        refused("in its last hour", STATE, AlarmEdgesTest::inTheLastHour, deck -> deck.shelve(1, 1, 1));
        refused("in a hand-over", STATE, Decks::handingOver, deck -> deck.shelve(3, 2, 1));
    }

    private static HandoverDeck inTheLastHour() {
        HandoverDeck deck = withShelved(24);
        deck.pass(23);
        return deck;
    }

    void promise5ShelvedNoMore() {
        HandoverDeck deck = inTheLastHour();
        deck.pass(1);
        same("its hours have passed", 35, deck.shelve(1, 1, 1));
        deck.clear(1, 1);
        deck.raise(1, 1, 1);
        same("it was cleared", 58, deck.shelve(1, 1, 24));
    }

    void promise5UnitBeforeNotActive() {
        refused("unit 8", INDEX, HandoverDeck::new, deck -> deck.shelve(8, 0, 1));
        refused("kind -1", INDEX, HandoverDeck::new, deck -> deck.shelve(0, -1, 1));
    }

    void promise5UnitBeforeHours() {
        refused("unit -1, hours 0", INDEX, Decks::full, deck -> deck.shelve(-1, 0, 0));
        refused("kind 4, hours 25", INDEX, Decks::full, deck -> deck.shelve(0, 4, 25));
    }

    void promise5NotActiveBeforeHours() {
        refused("hours 0", ELEMENT, HandoverDeck::new, deck -> deck.shelve(0, 0, 0));
        refused("hours 25", ELEMENT, Decks::busy, deck -> deck.shelve(5, 2, 25));
    }

    void promise5HoursBeforeShelved() {
        refused("hours 0", ARGUMENT, Decks::busy, deck -> deck.shelve(3, 2, 0));
        refused("hours 25", ARGUMENT, Decks::busy, deck -> deck.shelve(3, 2, 25));
    }

    void promise6UnitOutOfRange() {
        for (Decks.Maker maker : Decks.ALL) {
            range(0, 7, INDEX, maker, (deck, unit) -> deck.isShelved(unit, 0));
        }
    }

    void promise6KindOutOfRange() {
        for (Decks.Maker maker : Decks.ALL) {
            range(0, 3, INDEX, maker, (deck, kind) -> deck.isShelved(0, kind));
        }
    }

    void promise6UnitAndKindOutOfRange() {
        refused("unit too small, kind too great", INDEX, Decks::busy, deck -> deck.isShelved(-1, 4));
        refused("kind too great", INDEX, Decks::busy, deck -> deck.isShelved(2, 6));
        refused("kind too small", INDEX, Decks::busy, deck -> deck.isShelved(4, -2));
    }

    void promise6UntilTheHoursHavePassed() {
        for (int hours : new int[] {1, 2, 24}) {
            HandoverDeck deck = withShelved(hours);
            for (int passed = 0; passed < hours; passed++) {
                isTrue("after " + passed + " of " + hours, deck.isShelved(1, 1));
                deck.pass(1);
            }
            isFalse("after all of " + hours, deck.isShelved(1, 1));
            deck.pass(1);
            isFalse("later than " + hours, deck.isShelved(1, 1));
        }
    }

    void promise6NoneAndAll() {
        HandoverDeck empty = new HandoverDeck();
        HandoverDeck all = withAllAlarms();
        for (int alarm = 0; alarm < 32; alarm++) {
            isFalse("not active", empty.isShelved(alarm / 4, alarm % 4));
            isFalse("active", all.isShelved(alarm / 4, alarm % 4));
            all.shelve(alarm / 4, alarm % 4, 1);
            isTrue("shelved", all.isShelved(alarm / 4, alarm % 4));
        }
    }

    void promise6Cleared() {
        HandoverDeck deck = withShelved(24);
        deck.clear(1, 1);
        isFalse("cleared", deck.isShelved(1, 1));
        deck.raise(1, 1, 1);
        isFalse("raised anew", deck.isShelved(1, 1));
    }

    void promise7PriorityOutOfRange() {
        for (Decks.Maker maker : Decks.ALL) {
            range(1, 5, ARGUMENT, maker, HandoverDeck::alarms);
        }
    }

    void promise7NoneAndAll() {
        HandoverDeck deck = new HandoverDeck();
        same("none, least priority", 0, deck.alarms(1));
        same("none, greatest priority", 0, deck.alarms(5));
        for (int alarm = 0; alarm < 32; alarm++) {
            deck.raise(alarm / 4, alarm % 4, 5);
        }
        same("all, least priority", 32, deck.alarms(1));
        same("all, greatest priority", 32, deck.alarms(5));
        for (int alarm = 0; alarm < 32; alarm++) {
            deck.shelve(alarm / 4, alarm % 4, 1);
        }
        same("all are shelved", 0, deck.alarms(1));
        deck.pass(1);
        same("all are shelved no more", 32, deck.alarms(5));
    }

    void promise7AtLeastThePriority() {
        for (int raised = 1; raised <= 5; raised++) {
            HandoverDeck deck = new HandoverDeck();
            deck.raise(7, 3, raised);
            for (int asked = 1; asked <= 5; asked++) {
                same(raised + " is at least " + asked, raised >= asked ? 1 : 0, deck.alarms(asked));
            }
        }
    }

    void promise7UntilTheHoursHavePassed() {
        HandoverDeck deck = inTheLastHour();
        same("in the last hour", 0, deck.alarms(1));
        deck.pass(1);
        same("shelved no more", 1, deck.alarms(1));
    }

    void promise8None() {
        refused("on a new deck", ELEMENT, HandoverDeck::new, HandoverDeck::top);
        refused("notes alone", ELEMENT, () -> Decks.withNotes(60), HandoverDeck::top);
        refused("all are shelved, in the last hour", ELEMENT, AlarmEdgesTest::inTheLastHour, HandoverDeck::top);
        refused("all are cleared", ELEMENT, AlarmEdgesTest::withClearedAlarm, HandoverDeck::top);
    }

    private static HandoverDeck withClearedAlarm() {
        HandoverDeck deck = new HandoverDeck();
        deck.raise(0, 0, 5);
        deck.clear(0, 0);
        return deck;
    }

    void promise8ShelvedNoMore() {
        HandoverDeck deck = inTheLastHour();
        deck.pass(1);
        same("its hours have passed", 0, deck.top());
    }

    void promise8OneAlarmOfEach() {
        for (int alarm = 0; alarm < 32; alarm++) {
            HandoverDeck deck = new HandoverDeck();
            deck.note();
            deck.raise(alarm / 4, alarm % 4, alarm % 5 + 1);
            same("alarm " + alarm, 1, deck.top());
        }
    }

    void promise8GreatestPriority() {
        HandoverDeck rising = new HandoverDeck();
        HandoverDeck falling = new HandoverDeck();
        for (int priority = 1; priority <= 5; priority++) {
            rising.raise(priority, 0, priority);
            same("the last that was raised", priority - 1, rising.top());
            falling.raise(priority, 0, 6 - priority);
            same("the first that was raised", 0, falling.top());
        }
    }

    void promise8RaisedFirst() {
        HandoverDeck deck = new HandoverDeck();
        for (int alarm = 31; alarm >= 0; alarm--) {
            deck.raise(alarm / 4, alarm % 4, 3);
        }
        for (int line = 0; line < 32; line++) {
            same("of all of one priority", line, deck.top());
            deck.clear((31 - line) / 4, (31 - line) % 4);
        }
    }

    void promise8TheLastLine() {
        HandoverDeck deck = with59Lines();
        deck.raise(7, 3, 3);
        same("line 59", 59, deck.top());
    }
}
