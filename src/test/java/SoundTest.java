import java.lang.reflect.Array;
import java.lang.reflect.Field;

/**
 * Promise 40 where it does not hold. No run of calls leads there, so that the fields inside are set by hand:
 * this test alone knows their names, and is to be changed with them.
 */
public final class SoundTest {
    private static final Check check = new Check("sound");

    public static void main(String[] args) throws ReflectiveOperationException {
        countsDisagree();
        permitsShareUnit();
        activeAlarmWithoutOpenLine();
        undoneStepWithoutOpenLine();
        check.end();
    }

    private static void countsDisagree() throws ReflectiveOperationException {
        HandoverDeck deck = new HandoverDeck();
        deck.note();
        check.isTrue("p40 counts agree", deck.isSound());
        Object log = inside(deck, "log");
        fieldOf(log, "openCount").setInt(log, 2);
        check.same("p33 as it is kept", 2, deck.openLines());
        check.same("p34 from the log alone", 1, deck.openByLog());
        check.isFalse("p40 counts disagree", deck.isSound());
    }

    private static void permitsShareUnit() throws ReflectiveOperationException {
        HandoverDeck deck = new HandoverDeck();
        deck.begin(0);
        deck.openPermit(1);
        deck.openPermit(2);
        deck.openPermit(4);
        check.isTrue("p40 permits are apart", deck.isSound());
        Array.setInt(inside(inside(deck, "permits"), "unitSets"), 2, 6);
        check.isFalse("p40 two permits share a unit", deck.isSound());
        deck.closePermit(1);
        check.isTrue("p40 one of them is closed", deck.isSound());
    }

    private static void activeAlarmWithoutOpenLine() throws ReflectiveOperationException {
        HandoverDeck deck = new HandoverDeck();
        deck.note();
        deck.close(0);
        deck.raise(7, 3, 1);
        check.isTrue("p40 the alarm has an open line", deck.isSound());
        Array.setInt(inside(inside(deck, "board"), "lines"), 31, 0);
        check.isFalse("p40 the line of the alarm is closed", deck.isSound());
    }

    private static void undoneStepWithoutOpenLine() throws ReflectiveOperationException {
        HandoverDeck deck = new HandoverDeck();
        deck.begin(0);
        deck.note();
        deck.close(0);
        for (int procedure = 0; procedure < 6; procedure++) {
            deck.addProcedure();
        }
        deck.addStep(5, 0, 0, 0, 1);
        deck.step(5);
        deck.undo(5);
        check.isTrue("p40 the undone step has an open line", deck.isSound());
        Array.setInt(inside(inside(deck, "book"), "undoneLines"), 40, 0);
        check.isFalse("p40 the line of the undone step is closed", deck.isSound());
    }

    private static Object inside(Object owner, String name) throws ReflectiveOperationException {
        return fieldOf(owner, name).get(owner);
    }

    private static Field fieldOf(Object owner, String name) throws ReflectiveOperationException {
        Field field = owner.getClass().getDeclaredField(name);
        field.setAccessible(true);
        return field;
    }
}
