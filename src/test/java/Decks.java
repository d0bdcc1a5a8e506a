/** Decks in the states that tests start from; each is built anew, in less than 170 of the 512 calls of an object. */
final class Decks {
    interface Maker {
        HandoverDeck make();
    }

    /** From a deck with nothing there yet to one with all places taken. */
    static final Maker[] ALL = {
        HandoverDeck::new, Decks::unmanned, Decks::busy, Decks::handingOver, Decks::tired, Decks::full};

    /** As ALL, but without the deck that has all places taken. */
    static final Maker[] WITH_ROOM = {
        HandoverDeck::new, Decks::unmanned, Decks::busy, Decks::handingOver, Decks::tired};

    private Decks() {
    }

    /** Without a crew: alarms at lines 0, 1, 2, notes at 3 (closed) and 4, a cleared alarm at 5; three procedures. */
    static HandoverDeck unmanned() {
        HandoverDeck deck = new HandoverDeck();
        deck.pass(2);
        deck.raise(0, 0, 5);
        deck.raise(7, 3, 1);
        deck.raise(3, 1, 4);
        deck.note();
        deck.note();
        deck.close(3);
        deck.raise(5, 2, 4);
        deck.clear(5, 2);
        deck.shelve(0, 0, 24);
        addProcedure(deck, new int[][] {{0, 0, 0, 1}, {0, 1, 1, 2}, {1, 2, 2, 3}});
        addProcedure(deck, new int[][] {{7, 0, 7, 2}, {7, 2, 0, 3}, {6, 1, 6, 0}});
        addProcedure(deck, new int[][] {});
        return deck;
    }

    /** Crew 1 is on duty for 4 hours, crew 0 rests; step 1 of procedure 0 is undone; permits 1 and 2 are open. */
    static HandoverDeck busy() {
        HandoverDeck deck = unmanned();
        deck.begin(0);
        deck.step(0);
        deck.step(0);
        deck.undo(0);
        deck.step(1);
        deck.pass(3);
        deck.handOver(1);
        acknowledgeAll(deck);
        deck.take();
        deck.pass(4);
        deck.openPermit(0b00110000);
        deck.openPermit(0b01000000);
        deck.closePermit(0);
        deck.openPermit(0b00001000);
        deck.note();
        deck.raise(3, 2, 3);
        deck.shelve(3, 2, 5);
        return deck;
    }

    /** As busy, and a hand-over to crew 2 goes on, in which the first open line and the last are acknowledged. */
    static HandoverDeck handingOver() {
        HandoverDeck deck = busy();
        deck.handOver(2);
        deck.acknowledge(deck.openAt(0));
        deck.acknowledge(deck.openAt(deck.openLines() - 1));
        return deck;
    }

    /** As busy, and crew 1 is on duty for 12 hours. */
    static HandoverDeck tired() {
        HandoverDeck deck = busy();
        deck.pass(8);
        return deck;
    }

    /** 60 lines, 6 procedures of 8 steps, 8 permits of which two are open, all 32 alarms active; crew 3 on duty. */
    static HandoverDeck full() {
        HandoverDeck deck = new HandoverDeck();
        deck.begin(3);
        for (int procedure = 0; procedure < 6; procedure++) {
            addProcedure(deck, new int[8][4]);
        }
        for (int permit = 0; permit < 8; permit++) {
            deck.openPermit(1 << permit);
            if (permit < 6) {
                deck.closePermit(permit);
            }
        }
        raiseAll(deck);
        deck.step(5);
        deck.step(5);
        deck.undo(5);
        for (int line = 41; line < 60; line++) {
            deck.close(deck.note());
        }
        return deck;
    }

    /** A deck with so many lines of notes, all open. */
    static HandoverDeck withNotes(int count) {
        HandoverDeck deck = new HandoverDeck();
        for (int line = 0; line < count; line++) {
            deck.note();
        }
        return deck;
    }

    /** A deck with so many lines of notes, all closed, and with crew 0 on duty. */
    static HandoverDeck withClosedNotes(int count) {
        HandoverDeck deck = withNotes(count);
        for (int line = 0; line < count; line++) {
            deck.close(line);
        }
        deck.begin(0);
        return deck;
    }

    /** The alarm of each unit and kind, at priorities from 1 to 5 in turn. */
    static void raiseAll(HandoverDeck deck) {
        for (int unit = 0; unit < 8; unit++) {
            for (int kind = 0; kind < 4; kind++) {
                deck.raise(unit, kind, (unit * 4 + kind) % 5 + 1);
            }
        }
    }

    /** Adds a procedure; each row is a step: the unit that it needs, in which state, the unit that it sets, to which. */
    static int addProcedure(HandoverDeck deck, int[][] steps) {
        int procedure = deck.addProcedure();
        for (int[] step : steps) {
            deck.addStep(procedure, step[0], step[1], step[2], step[3]);
        }
        return procedure;
    }

    static void acknowledgeAll(HandoverDeck deck) {
        int open = deck.openLines();
        for (int index = 0; index < open; index++) {
            deck.acknowledge(deck.openAt(index));
        }
    }

    /** A hand-over from its beginning until it is taken. */
    static void change(HandoverDeck deck, int crew) {
        deck.handOver(crew);
        acknowledgeAll(deck);
        deck.take();
    }
}
