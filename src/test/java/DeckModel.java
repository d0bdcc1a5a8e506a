import java.util.ArrayList;
import java.util.HashMap;
import java.util.List;
import java.util.Map;
import java.util.NoSuchElementException;

/** The document in its plainest words: lists of objects, and nothing kept that can be found anew. */
final class DeckModel {
    static final class Line {
        final int number;
        final char kind;
        final int since;
        boolean open = true;
        boolean acknowledged;
        int passed;

        Line(int number, char kind, int since) {
            this.number = number;
            this.kind = kind;
            this.since = since;
        }
    }

    static final class Alarm {
        int priority;
        Line line;
        Integer shelvedAt;
        int shelvedFor;
    }

    static final class Step {
        int needed;
        int neededState;
        int unit;
        int newState;
        int noted;
        Integer lastTaken;
        Line undone;
    }

    static final class Procedure {
        final List<Step> steps = new ArrayList<>();
        int done;
    }

    static final class Permit {
        int units;
        Line line;
    }

    private final int[] states = new int[8];
    private final List<Line> lines = new ArrayList<>();
    private final Map<String, Alarm> active = new HashMap<>();
    private final List<Procedure> procedures = new ArrayList<>();
    private final List<Permit> permits = new ArrayList<>();
    private final Map<Integer, Integer> shiftEnds = new HashMap<>();
    private Integer onDuty;
    private Integer nextCrew;
    private int shiftBegan;
    private int hour;

    private static void unless(boolean holds, RuntimeException thrown) {
        if (!holds) {
            throw thrown;
        }
    }

    private static boolean in(int value, int from, int to) {
        return value >= from && value <= to;
    }

    private Line open(char kind) {
        Line line = new Line(lines.size(), kind, hour);
        lines.add(line);
        return line;
    }

    private List<Line> openOnes() {
        List<Line> found = new ArrayList<>();
        for (Line line : lines) {
            if (line.open) {
                found.add(line);
            }
        }
        return found;
    }

    private boolean roomForLine() {
        return lines.size() < 60;
    }

    private boolean shelved(Alarm alarm) {
        return alarm != null && alarm.shelvedAt != null && hour - alarm.shelvedAt < alarm.shelvedFor;
    }

    private boolean working() {
        return onDuty != null && nextCrew == null;
    }

    private boolean bars(Permit permit, Step step) {
        return permit.line.open && (permit.units >> step.unit) % 2 == 1;
    }

    private boolean barred(Step step) {
        for (Permit permit : permits) {
            if (bars(permit, step)) {
                return true;
            }
        }
        return false;
    }

    private Procedure procedure(int number) {
        unless(in(number, 0, procedures.size() - 1), new NoSuchElementException());
        return procedures.get(number);
    }

    private Line line(int number) {
        unless(in(number, 0, lines.size() - 1), new NoSuchElementException());
        return lines.get(number);
    }

    private String alarmKey(int unit, int kind) {
        unless(in(unit, 0, 7) && in(kind, 0, 3), new IndexOutOfBoundsException());
        return unit + "/" + kind;
    }

    int state(int unit) {
        unless(in(unit, 0, 7), new IndexOutOfBoundsException());
        return states[unit];
    }

    int raise(int unit, int kind, int priority) {
        String key = alarmKey(unit, kind);
        unless(in(priority, 1, 5), new IllegalArgumentException());
        unless(!active.containsKey(key) && roomForLine(), new IllegalStateException());
        Alarm alarm = new Alarm();
        alarm.priority = priority;
        alarm.line = open('a');
        active.put(key, alarm);
        return alarm.line.number;
    }

    int clear(int unit, int kind) {
        String key = alarmKey(unit, kind);
        unless(active.containsKey(key), new NoSuchElementException());
        Alarm alarm = active.remove(key);
        alarm.line.open = false;
        return alarm.line.number;
    }

    int shelve(int unit, int kind, int hours) {
        Alarm alarm = active.get(alarmKey(unit, kind));
        unless(alarm != null, new NoSuchElementException());
        unless(in(hours, 1, 24), new IllegalArgumentException());
        unless(!shelved(alarm), new IllegalStateException());
        alarm.shelvedAt = hour;
        alarm.shelvedFor = hours;
        return hour + hours;
    }

    boolean isShelved(int unit, int kind) {
        return shelved(active.get(alarmKey(unit, kind)));
    }

    int alarms(int priority) {
        unless(in(priority, 1, 5), new IllegalArgumentException());
        int count = 0;
        for (Alarm alarm : active.values()) {
            count += !shelved(alarm) && alarm.priority >= priority ? 1 : 0;
        }
        return count;
    }

    int top() {
        for (int priority = 5; priority >= 1; priority--) {
            for (Line line : lines) {
                for (Alarm alarm : active.values()) {
                    if (alarm.line == line && alarm.priority == priority && !shelved(alarm)) {
                        return line.number;
                    }
                }
            }
        }
        throw new NoSuchElementException();
    }

    int addProcedure() {
        unless(procedures.size() < 6, new IllegalStateException());
        procedures.add(new Procedure());
        return procedures.size() - 1;
    }

    int addStep(int procedure, int needed, int neededState, int unit, int newState) {
        Procedure owner = procedure(procedure);
        unless(in(needed, 0, 7) && in(unit, 0, 7), new IndexOutOfBoundsException());
        unless(in(neededState, 0, 3) && in(newState, 0, 3), new IllegalArgumentException());
        unless(owner.steps.size() < 8, new IllegalStateException());
        Step step = new Step();
        step.needed = needed;
        step.neededState = neededState;
        step.unit = unit;
        step.newState = newState;
        owner.steps.add(step);
        return owner.steps.size() - 1;
    }

    int done(int procedure) {
        return procedure(procedure).done;
    }

    char reason(int procedure) {
        Procedure owner = procedure(procedure);
        if (owner.done == owner.steps.size()) {
            return 'e';
        }
        Step step = owner.steps.get(owner.done);
        return !working() ? 'd'
                : isTired() ? 't'
                : barred(step) ? 'b'
                : states[step.needed] != step.neededState ? 'n' : '-';
    }

    int barredBy(int procedure) {
        Procedure owner = procedure(procedure);
        unless(owner.done < owner.steps.size(), new NoSuchElementException());
        for (int number = 0; number < permits.size(); number++) {
            if (bars(permits.get(number), owner.steps.get(owner.done))) {
                return number;
            }
        }
        throw new NoSuchElementException();
    }

    int step(int procedure) {
        Procedure owner = procedure(procedure);
        unless(reason(procedure) == '-', new IllegalStateException());
        Step step = owner.steps.get(owner.done);
        step.noted = states[step.unit];
        states[step.unit] = step.newState;
        step.lastTaken = hour;
        if (step.undone != null) {
            step.undone.open = false;
        }
        owner.done++;
        return owner.done - 1;
    }

    int undo(int procedure) {
        Procedure owner = procedure(procedure);
        unless(owner.done > 0 && working() && roomForLine(), new IllegalStateException());
        Step step = owner.steps.get(owner.done - 1);
        unless(states[step.unit] == step.newState && !barred(step), new UnsupportedOperationException());
        states[step.unit] = step.noted;
        step.undone = open('s');
        owner.done--;
        return step.undone.number;
    }

    int reset(int procedure) {
        Procedure owner = procedure(procedure);
        unless(working(), new IllegalStateException());
        int closed = 0;
        for (Step step : owner.steps) {
            if (step.undone != null && step.undone.open) {
                step.undone.open = false;
                closed++;
            }
        }
        owner.done = 0;
        return closed;
    }

    int drill() {
        for (int taken = -1; taken <= hour; taken++) {
            for (int procedure = 0; procedure < procedures.size(); procedure++) {
                List<Step> steps = procedures.get(procedure).steps;
                for (int number = 0; number < steps.size(); number++) {
                    Integer last = steps.get(number).lastTaken;
                    if ((last == null ? -1 : last) == taken) {
                        return 8 * procedure + number;
                    }
                }
            }
        }
        throw new NoSuchElementException();
    }

    int openPermit(int units) {
        unless(in(units, 1, 255), new IllegalArgumentException());
        unless(working() && permits.size() < 8 && roomForLine(), new IllegalStateException());
        for (Permit permit : permits) {
            unless(!permit.line.open || (permit.units & units) == 0, new UnsupportedOperationException());
        }
        unless(!isTired(), new UnsupportedOperationException());
        Permit permit = new Permit();
        permit.units = units;
        permit.line = open('p');
        permits.add(permit);
        return permits.size() - 1;
    }

    int closePermit(int permit) {
        boolean was = isPermitOpen(permit);
        unless(was && working(), new IllegalStateException());
        permits.get(permit).line.open = false;
        return permits.get(permit).line.number;
    }

    boolean isPermitOpen(int permit) {
        unless(in(permit, 0, permits.size() - 1), new NoSuchElementException());
        return permits.get(permit).line.open;
    }

    int note() {
        unless(roomForLine(), new IllegalStateException());
        return open('n').number;
    }

    int close(int line) {
        Line found = line(line);
        unless(found.kind == 'n', new UnsupportedOperationException());
        unless(found.open, new IllegalStateException());
        found.open = false;
        return openOnes().size();
    }

    int begin(int crew) {
        unless(in(crew, 0, 3), new IllegalArgumentException());
        unless(onDuty == null, new IllegalStateException());
        onDuty = crew;
        shiftBegan = hour;
        return hour;
    }

    int handOver(int crew) {
        unless(in(crew, 0, 3), new IllegalArgumentException());
        unless(working() && onDuty != crew, new IllegalStateException());
        unless(restLeft(crew) == 0, new UnsupportedOperationException());
        nextCrew = crew;
        return openOnes().size();
    }

    int acknowledge(int line) {
        Line found = line(line);
        unless(nextCrew != null && found.open && !found.acknowledged, new IllegalStateException());
        found.acknowledged = true;
        return openOnes().size() - acknowledged();
    }

    private int acknowledged() {
        int count = 0;
        for (Line line : openOnes()) {
            count += line.acknowledged ? 1 : 0;
        }
        return count;
    }

    private void endHandOver() {
        nextCrew = null;
        for (Line line : lines) {
            line.acknowledged = false;
        }
    }

    int take() {
        unless(nextCrew != null, new IllegalStateException());
        unless(acknowledged() == openOnes().size(), new UnsupportedOperationException());
        shiftEnds.put(onDuty, hour);
        onDuty = nextCrew;
        shiftBegan = hour;
        for (Line line : openOnes()) {
            line.passed++;
        }
        endHandOver();
        return openOnes().size();
    }

    int cancel() {
        unless(nextCrew != null, new IllegalStateException());
        int count = acknowledged();
        endHandOver();
        return count;
    }

    int pass(int hours) {
        unless(in(hours, 1, 48), new IllegalArgumentException());
        List<Alarm> before = new ArrayList<>();
        for (Alarm alarm : active.values()) {
            if (shelved(alarm)) {
                before.add(alarm);
            }
        }
        hour += hours;
        int ended = 0;
        for (Alarm alarm : before) {
            ended += shelved(alarm) ? 0 : 1;
        }
        return ended;
    }

    int hour() {
        return hour;
    }

    int onDuty() {
        unless(onDuty != null, new NoSuchElementException());
        return onDuty;
    }

    boolean isTired() {
        return onDuty != null && hour - shiftBegan >= 12;
    }

    int restLeft(int crew) {
        unless(in(crew, 0, 3), new IllegalArgumentException());
        boolean onDutyNow = onDuty != null && onDuty == crew;
        Integer ended = shiftEnds.get(crew);
        return onDutyNow || ended == null || hour - ended >= 11 ? 0 : 11 - (hour - ended);
    }

    int openLines() {
        return openOnes().size();
    }

    int openByLog() {
        return openLines();
    }

    boolean isSound() {
        return true;
    }

    int openAt(int index) {
        unless(in(index, 0, openOnes().size() - 1), new IndexOutOfBoundsException());
        return openOnes().get(index).number;
    }

    char kindOf(int line) {
        return line(line).kind;
    }

    int passed(int line) {
        return line(line).passed;
    }

    float closedShare() {
        unless(!lines.isEmpty(), new ArithmeticException());
        return (float) (lines.size() - openOnes().size()) / (float) lines.size();
    }

    double meanAge() {
        unless(!openOnes().isEmpty(), new ArithmeticException());
        int sum = 0;
        for (Line line : openOnes()) {
            sum += hour - line.since;
        }
        return (double) sum / (double) openOnes().size();
    }
}
