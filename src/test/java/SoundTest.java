import java.lang.reflect.Array;
import java.lang.reflect.Field;

/**
 * Promise 40 where it does not hold, and promise 13 where several permits bar a step. No run of calls leads there, so
 * that the fields inside are set by hand: this test alone knows their names, and is to be changed with them.
 */
public final class SoundTest {
    private static final Check check = new Check("sound");

    public static void main(String[] args) throws ReflectiveOperationException {
        countsDisagree();
        permitsShareUnit();
        severalPermitsBar();
        activeAlarmWithoutOpenLine();
        undoneStepWithoutOpenLine();
        check.end();
    }

    private static void countsDisagree() throws ReflectiveOperationException {
        HandoverDeck deck = new HandoverDeck();
        deck.note();
        check.isTrue("p40 counts agree", deck.isSound());
        Object log = inside(deck, "log");
        fieldOf(log, "openCount").setInt(log, 2);
        check.same("p33 as it is kept", 2, deck.openLines());
        check.same("p34 from the log alone", 1, deck.openByLog());
        check.isFalse("p40 counts disagree", deck.isSound());
    }

    private static void permitsShareUnit() throws ReflectiveOperationException {
        for (int first = 0; first < 8; first++) {
            for (int second = first + 1; second < 8; second++) {
                HandoverDeck deck = new HandoverDeck();
                deck.begin(0);
                for (int unit = 0; unit < 8; unit++) {
                    deck.openPermit(1 << unit);
                }
                check.isTrue("p40 permits are apart", deck.isSound());
                Array.setInt(inside(inside(deck, "permits"), "unitSets"), second, 1 << second | 1 << first);
                check.isFalse("p40 permits " + first + " and " + second + " share a unit", deck.isSound());
                deck.closePermit(first);
                check.isTrue("p40 one of them is closed", deck.isSound());
            }
        }
    }

    private static void severalPermitsBar() throws ReflectiveOperationException {
        for (int lower = 0; lower < 8; lower++) {
            for (int unit = lower + 1; unit < 8; unit++) {
                HandoverDeck deck = new HandoverDeck();
                deck.begin(0);
                Decks.addProcedure(deck, new int[][] {{0, 0, unit, 0}});
                for (int permit = 0; permit < 8; permit++) {
                    deck.openPermit(1 << permit);
                }
                check.same("p13 one permit bars", unit, deck.barredBy(0));
                Array.setInt(inside(inside(deck, "permits"), "unitSets"), lower, 1 << lower | 1 << unit);
                check.same("p13 two bar, the one with the lowest number", lower, deck.barredBy(0));
                deck.closePermit(lower);
                check.same("p13 the lowest is closed", unit, deck.barredBy(0));
            }
        }
    }

    private static void activeAlarmWithoutOpenLine() throws ReflectiveOperationException {
        for (int alarm = 0; alarm < 32; alarm++) {
            HandoverDeck deck = Decks.withClosedNotes(1);
            Decks.raiseAll(deck);
            check.isTrue("p40 the alarm has an open line", deck.isSound());
            Array.setInt(inside(inside(deck, "board"), "lines"), alarm, 0);
            check.isFalse("p40 the line of alarm " + alarm + " is closed", deck.isSound());
        }
    }

    private static void undoneStepWithoutOpenLine() throws ReflectiveOperationException {
        for (int place = 0; place < 48; place++) {
            HandoverDeck deck = Decks.withClosedNotes(1);
            for (int procedure = 0; procedure < 6; procedure++) {
                Decks.addProcedure(deck, new int[8][4]);
            }
            undoAll(deck);
            check.isTrue("p40 the undone step has an open line", deck.isSound());
            Array.setInt(inside(inside(deck, "book"), "undoneLines"), place, 0);
            check.isFalse("p40 the line of undone step " + place + " is closed", deck.isSound());
        }
    }

    private static void undoAll(HandoverDeck deck) {
        for (int place = 0; place < 48; place++) {
            deck.step(place / 8);
        }
        for (int place = 0; place < 48; place++) {
            deck.undo(place / 8);
        }
    }

    private static Object inside(Object owner, String name) throws ReflectiveOperationException {
        return fieldOf(owner, name).get(owner);
    }

    private static Field fieldOf(Object owner, String name) throws ReflectiveOperationException {
        Field field = owner.getClass().getDeclaredField(name);
        field.setAccessible(true);
        return field;
    }
}
