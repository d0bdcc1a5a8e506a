import java.util.NoSuchElementException;

/** A shift log for operators; the document of the project tells what each call does. */
public final class HandoverDeck {
    private static final int UNITS = 8;
    private static final int STATES = 4;
    private static final int ALL_UNITS = 255;
    private static final int ALARM_KINDS = 4;
    private static final int ALARMS = UNITS * ALARM_KINDS;
    private static final int MAX_PRIORITY = 5;
    private static final int MAX_SHELF_HOURS = 24;
    private static final int MAX_PASS_HOURS = 48;
    private static final int MAX_LINES = 60;
    private static final int MAX_ENTRIES = 2 * MAX_LINES;
    private static final int MAX_PROCEDURES = 6;
    private static final int MAX_STEPS = 8;
    private static final int STEP_PLACES = MAX_PROCEDURES * MAX_STEPS;
    private static final int MAX_PERMITS = 8;
    private static final int CREWS = 4;
    private static final int TIRED_HOURS = 12;
    private static final int REST_HOURS = 11;
    private static final int NONE = -1;

    private final int[] states = new int[UNITS];
    private final Log log = new Log();
    private final AlarmBoard board = new AlarmBoard();
    private final ProcedureBook book = new ProcedureBook();
    private final PermitRack permits = new PermitRack();
    private final CrewRoster roster = new CrewRoster();
    private int now;

    public HandoverDeck() {
    }

    public int state(int unit) throws IndexOutOfBoundsException {
        checkUnit(unit);
        return stateOf(unit);
    }

    public int raise(int unit, int kind, int priority)
            throws IndexOutOfBoundsException, IllegalArgumentException, IllegalStateException {
        checkAlarm(unit, kind);
        checkPriority(priority);
        int alarm = alarmOf(unit, kind);
        if (board.isActive(alarm)) {
            throw new IllegalStateException("the alarm is active");
        }
        checkRoomForLine();
        int line = log.openLine('a', now);
        board.activate(alarm, priority, line);
        return line;
    }

    public int clear(int unit, int kind) throws IndexOutOfBoundsException, NoSuchElementException {
        checkAlarm(unit, kind);
        int alarm = alarmOf(unit, kind);
        checkActive(alarm);
        int line = board.lineOf(alarm);
        board.deactivate(alarm);
        log.closeLine(line);
        return line;
    }

    public int shelve(int unit, int kind, int hours)
            throws IndexOutOfBoundsException, NoSuchElementException, IllegalArgumentException, IllegalStateException {
        checkAlarm(unit, kind);
        int alarm = alarmOf(unit, kind);
        checkActive(alarm);
        if (hours < 1 || hours > MAX_SHELF_HOURS) {
            throw new IllegalArgumentException("no such number of hours");
        }
        if (board.isOnShelf(alarm, now)) {
            throw new IllegalStateException("the alarm is shelved");
        }
        int end = now + hours;
        board.putOnShelf(alarm, end);
        return end;
    }

    public boolean isShelved(int unit, int kind) throws IndexOutOfBoundsException {
        checkAlarm(unit, kind);
        return board.isOnShelf(alarmOf(unit, kind), now);
    }

    public int alarms(int priority) throws IllegalArgumentException {
        checkPriority(priority);
        return board.countSounding(priority, now);
    }

    public int top() throws NoSuchElementException {
        int line = board.topLine(now);
        if (line == NONE) {
            throw new NoSuchElementException("no alarm is active and not shelved");
        }
        return line;
    }

    public int addProcedure() throws IllegalStateException {
        if (book.isFull()) {
            throw new IllegalStateException("there are 6 procedures");
        }
        return book.append();
    }

    public int addStep(int procedure, int needed, int neededState, int unit, int newState)
            throws NoSuchElementException, IndexOutOfBoundsException, IllegalArgumentException, IllegalStateException {
        checkProcedure(procedure);
        checkUnit(needed);
        checkUnit(unit);
        checkState(neededState);
        checkState(newState);
        if (book.stepCount(procedure) >= MAX_STEPS) {
            throw new IllegalStateException("the procedure has 8 steps");
        }
        int place = book.appendStep(procedure);
        book.setNeed(place, needed, neededState);
        book.setEffect(place, unit, newState);
        return stepNumber(place);
    }

    public int done(int procedure) throws NoSuchElementException {
        checkProcedure(procedure);
        return book.doneCount(procedure);
    }

    public char reason(int procedure) throws NoSuchElementException {
        checkProcedure(procedure);
        return reasonOf(procedure);
    }

    public int barredBy(int procedure) throws NoSuchElementException {
        checkProcedure(procedure);
        int place = book.nextPlace(procedure);
        if (place == NONE) {
            throw new NoSuchElementException("all steps of the procedure are done");
        }
        int permit = permits.firstOpenWith(unitBit(book.unitOf(place)));
        if (permit == NONE) {
            throw new NoSuchElementException("no open permit bars the step");
        }
        return permit;
    }

    public int step(int procedure) throws NoSuchElementException, IllegalStateException {
        checkProcedure(procedure);
        if (reasonOf(procedure) != '-') {
            throw new IllegalStateException("the next step cannot be taken");
        }
        int place = book.nextPlace(procedure);
        int unit = book.unitOf(place);
        book.markTaken(procedure, stateOf(unit), now);
        setState(unit, book.newStateOf(place));
        closeUndoneLine(place);
        return stepNumber(place);
    }

    public int undo(int procedure)
            throws NoSuchElementException, IllegalStateException, UnsupportedOperationException {
        checkProcedure(procedure);
        int place = book.lastDonePlace(procedure);
        if (place == NONE) {
            throw new IllegalStateException("no step is done");
        }
        checkAtWork();
        checkRoomForLine();
        int unit = book.unitOf(place);
        if (stateOf(unit) != book.newStateOf(place) || permits.firstOpenWith(unitBit(unit)) != NONE) {
            throw new UnsupportedOperationException("the unit was set since, or a permit bars the step");
        }
        int line = log.openLine('s', now);
        setState(unit, book.notedStateOf(place));
        book.markUndone(procedure, line);
        return line;
    }

    public int reset(int procedure) throws NoSuchElementException, IllegalStateException {
        checkProcedure(procedure);
        checkAtWork();
        book.markNoneDone(procedure);
        int closed = 0;
        for (int number = 0; number < MAX_STEPS; number++) {
            if (closeUndoneLine(stepPlace(procedure, number))) {
                closed++;
            }
        }
        return closed;
    }

    public int drill() throws NoSuchElementException {
        int place = book.longestNotTaken();
        if (place == NONE) {
            throw new NoSuchElementException("there are no steps");
        }
        return place;
    }

    public int openPermit(int units)
            throws IllegalArgumentException, IllegalStateException, UnsupportedOperationException {
        if (units < 1 || units > ALL_UNITS) {
            throw new IllegalArgumentException("no such set of units");
        }
        checkAtWork();
        if (permits.isFull()) {
            throw new IllegalStateException("there are 8 permits");
        }
        checkRoomForLine();
        if (permits.firstOpenWith(units) != NONE || roster.isWeary(now)) {
            throw new UnsupportedOperationException("an open permit has one of the units, or the crew is tired");
        }
        return permits.append(units, log.openLine('p', now));
    }

    public int closePermit(int permit) throws NoSuchElementException, IllegalStateException {
        checkPermit(permit);
        if (!permits.isOpen(permit)) {
            throw new IllegalStateException("the permit is closed");
        }
        checkAtWork();
        int line = permits.lineOf(permit);
        permits.shut(permit);
        log.closeLine(line);
        return line;
    }

    public boolean isPermitOpen(int permit) throws NoSuchElementException {
        checkPermit(permit);
        return permits.isOpen(permit);
    }

    public int note() throws IllegalStateException {
        checkRoomForLine();
        return log.openLine('n', now);
    }

    public int close(int line) throws NoSuchElementException, UnsupportedOperationException, IllegalStateException {
        checkLine(line);
        if (log.kindAt(line) != 'n') {
            throw new UnsupportedOperationException("the line is not of a note");
        }
        if (!log.isOpen(line)) {
            throw new IllegalStateException("the line is closed");
        }
        log.closeLine(line);
        return log.openCount();
    }

    public int begin(int crew) throws IllegalArgumentException, IllegalStateException {
        checkCrew(crew);
        if (roster.crewOnDuty() != NONE) {
            throw new IllegalStateException("a crew is on duty");
        }
        roster.startShift(crew, now);
        return now;
    }

    public int handOver(int crew)
            throws IllegalArgumentException, IllegalStateException, UnsupportedOperationException {
        checkCrew(crew);
        checkAtWork();
        if (roster.crewOnDuty() == crew) {
            throw new IllegalStateException("the crew is on duty");
        }
        if (roster.restOf(crew, now) > 0) {
            throw new UnsupportedOperationException("the crew is not rested");
        }
        roster.startHandOver(crew);
        log.forgetAcknowledged();
        return log.openCount();
    }

    public int acknowledge(int line) throws NoSuchElementException, IllegalStateException {
        checkLine(line);
        checkHandOver();
        if (!log.isOpen(line) || log.isAcknowledged(line)) {
            throw new IllegalStateException("the line is closed, or it is acknowledged");
        }
        log.markAcknowledged(line);
        return log.openCount() - log.acknowledgedCount();
    }

    public int take() throws IllegalStateException, UnsupportedOperationException {
        checkHandOver();
        if (log.acknowledgedCount() < log.openCount()) {
            throw new UnsupportedOperationException("an open line is not acknowledged");
        }
        roster.changeShift(now);
        log.countHandOver();
        return log.openCount();
    }

    public int cancel() throws IllegalStateException {
        checkHandOver();
        roster.stopHandOver();
        return log.acknowledgedCount();
    }

    public int pass(int hours) throws IllegalArgumentException {
        if (hours < 1 || hours > MAX_PASS_HOURS) {
            throw new IllegalArgumentException("no such number of hours");
        }
        int shelvedBefore = board.countOnShelf(now);
        now += hours;
        return shelvedBefore - board.countOnShelf(now);
    }

    public int hour() {
        return now;
    }

    public int onDuty() throws NoSuchElementException {
        int crew = roster.crewOnDuty();
        if (crew == NONE) {
            throw new NoSuchElementException("no crew is on duty");
        }
        return crew;
    }

    public boolean isTired() {
        return roster.isWeary(now);
    }

    public int restLeft(int crew) throws IllegalArgumentException {
        checkCrew(crew);
        return roster.restOf(crew, now);
    }

    public int openLines() {
        return log.openCount();
    }

    public int openByLog() {
        return log.openCountByEntries();
    }

    public int openAt(int index) throws IndexOutOfBoundsException {
        int line = log.openLineAt(index);
        if (line == NONE) {
            throw new IndexOutOfBoundsException("no such open line");
        }
        return line;
    }

    public char kindOf(int line) throws NoSuchElementException {
        checkLine(line);
        return log.kindAt(line);
    }

    public int passed(int line) throws NoSuchElementException {
        checkLine(line);
        return log.handOversOf(line);
    }

    public float closedShare() throws ArithmeticException {
        int all = log.lineCount();
        if (all == 0) {
            throw new ArithmeticException("there are no lines");
        }
        return (float) (all - log.openCount()) / (float) all;
    }

    public double meanAge() throws ArithmeticException {
        int open = log.openCount();
        if (open == 0) {
            throw new ArithmeticException("there are no open lines");
        }
        return (double) log.sumOfAges(now) / (double) open;
    }

    public boolean isSound() {
        return log.openCount() == log.openCountByEntries()
                && permits.areOpenApart()
                && activeAlarmsHaveLines()
                && undoneStepsHaveLines();
    }

    private boolean activeAlarmsHaveLines() {
        for (int alarm = 0; alarm < ALARMS; alarm++) {
            if (board.isActive(alarm) && !log.isOpen(board.lineOf(alarm))) {
                return false;
            }
        }
        return true;
    }

    private boolean undoneStepsHaveLines() {
        for (int place = 0; place < STEP_PLACES; place++) {
            if (book.isUndone(place) && !log.isOpen(book.undoneLineOf(place))) {
                return false;
            }
        }
        return true;
    }

    private char reasonOf(int procedure) {
        int place = book.nextPlace(procedure);
        if (place == NONE) {
            return 'e';
        }
        if (!roster.isAtWork()) {
            return 'd';
        }
        if (roster.isWeary(now)) {
            return 't';
        }
        if (permits.firstOpenWith(unitBit(book.unitOf(place))) != NONE) {
            return 'b';
        }
        if (stateOf(book.neededOf(place)) != book.neededStateOf(place)) {
            return 'n';
        }
        return '-';
    }

    private boolean closeUndoneLine(int place) {
        if (!book.isUndone(place)) {
            return false;
        }
        log.closeLine(book.undoneLineOf(place));
        book.markNotUndone(place);
        return true;
    }

    private int stateOf(int unit) {
        return isUnit(unit) ? states[unit] : 0;
    }

    private void setState(int unit, int newState) {
        if (isUnit(unit)) {
            states[unit] = newState;
        }
    }

    private void checkRoomForLine() {
        if (log.isFull()) {
            throw new IllegalStateException("there are 60 lines");
        }
    }

    private void checkLine(int line) {
        if (!log.hasLine(line)) {
            throw new NoSuchElementException("no such line");
        }
    }

    private void checkActive(int alarm) {
        if (!board.isActive(alarm)) {
            throw new NoSuchElementException("the alarm is not active");
        }
    }

    private void checkProcedure(int procedure) {
        if (!book.hasProcedure(procedure)) {
            throw new NoSuchElementException("no such procedure");
        }
    }

    private void checkPermit(int permit) {
        if (!permits.hasPermit(permit)) {
            throw new NoSuchElementException("no such permit");
        }
    }

    private void checkAtWork() {
        if (!roster.isAtWork()) {
            throw new IllegalStateException("no crew is on duty, or a hand-over goes on");
        }
    }

    private void checkHandOver() {
        if (!roster.isHandingOver()) {
            throw new IllegalStateException("no hand-over goes on");
        }
    }

    private static void checkUnit(int unit) {
        if (!isUnit(unit)) {
            throw new IndexOutOfBoundsException("no such unit");
        }
    }

    private static void checkAlarm(int unit, int kind) {
        checkUnit(unit);
        if (kind < 0 || kind >= ALARM_KINDS) {
            throw new IndexOutOfBoundsException("no such kind of alarm");
        }
    }

    private static void checkPriority(int priority) {
        if (priority < 1 || priority > MAX_PRIORITY) {
            throw new IllegalArgumentException("no such priority");
        }
    }

    private static void checkState(int stateNumber) {
        if (stateNumber < 0 || stateNumber >= STATES) {
            throw new IllegalArgumentException("no such state");
        }
    }

    private static void checkCrew(int crew) {
        if (!isCrew(crew)) {
            throw new IllegalArgumentException("no such crew");
        }
    }

    private static boolean isUnit(int unit) {
        return unit >= 0 && unit < UNITS;
    }

    private static boolean isCrew(int crew) {
        return crew >= 0 && crew < CREWS;
    }

    private static int unitBit(int unit) {
        return isUnit(unit) ? 1 << unit : 0;
    }

    private static int alarmOf(int unit, int kind) {
        return unit * ALARM_KINDS + kind;
    }

    private static int stepPlace(int procedure, int number) {
        return procedure * MAX_STEPS + number;
    }

    private static int stepNumber(int place) {
        return place % MAX_STEPS;
    }

    /** The lines, and beside them the entries of what was opened and closed, which tell the open lines anew. */
    private static final class Log {
        private final char[] kinds = new char[MAX_LINES];
        private final int[] openedAt = new int[MAX_LINES];
        private final boolean[] open = new boolean[MAX_LINES];
        private final boolean[] acknowledged = new boolean[MAX_LINES];
        private final int[] handOvers = new int[MAX_LINES];
        private final int[] entries = new int[MAX_ENTRIES];
        private int lineCount;
        private int openCount;
        private int entryCount;

        boolean isFull() {
            return lineCount >= MAX_LINES;
        }

        boolean hasLine(int line) {
            return line >= 0 && line < lineCount && line < MAX_LINES;
        }

        int lineCount() {
            return lineCount;
        }

        int openCount() {
            return openCount;
        }

        int openLine(char kind, int hourNow) {
            if (isFull()) {
                return NONE;
            }
            int line = lineCount;
            lineCount++;
            if (hasLine(line)) {
                kinds[line] = kind;
                openedAt[line] = hourNow;
                open[line] = true;
                openCount++;
                writeEntry(line);
            }
            return line;
        }

        void closeLine(int line) {
            if (isOpen(line)) {
                open[line] = false;
                openCount--;
                // The complement of a number is negative, so that it tells closing from opening even for line 0.
                writeEntry(~line);
            }
        }

        private void writeEntry(int entry) {
            if (entryCount >= 0 && entryCount < MAX_ENTRIES) {
                entries[entryCount] = entry;
                entryCount++;
            }
        }

        int openCountByEntries() {
            int found = 0;
            for (int i = 0; i < MAX_ENTRIES && i < entryCount; i++) {
                found += entries[i] >= 0 ? 1 : -1;
            }
            return found;
        }

        boolean isOpen(int line) {
            return hasLine(line) && open[line];
        }

        char kindAt(int line) {
            return hasLine(line) ? kinds[line] : ' ';
        }

        int handOversOf(int line) {
            return hasLine(line) ? handOvers[line] : 0;
        }

        boolean isAcknowledged(int line) {
            return hasLine(line) && acknowledged[line];
        }

        void markAcknowledged(int line) {
            if (hasLine(line)) {
                acknowledged[line] = true;
            }
        }

        void forgetAcknowledged() {
            for (int line = 0; line < MAX_LINES; line++) {
                acknowledged[line] = false;
            }
        }

        int acknowledgedCount() {
            int count = 0;
            for (int line = 0; line < MAX_LINES; line++) {
                if (isOpen(line) && acknowledged[line]) {
                    count++;
                }
            }
            return count;
        }

        void countHandOver() {
            for (int line = 0; line < MAX_LINES; line++) {
                if (isOpen(line)) {
                    handOvers[line]++;
                }
            }
        }

        int openLineAt(int index) {
            int before = 0;
            for (int line = 0; line < MAX_LINES; line++) {
                if (isOpen(line)) {
                    if (before == index) {
                        return line;
                    }
                    before++;
                }
            }
            return NONE;
        }

        int sumOfAges(int hourNow) {
            int sum = 0;
            for (int line = 0; line < MAX_LINES; line++) {
                if (isOpen(line)) {
                    sum += hourNow - openedAt[line];
                }
            }
            return sum;
        }
    }

    /** The alarms of all units and kinds; one is active as long as it has a priority. */
    private static final class AlarmBoard {
        private final int[] priorities = new int[ALARMS];
        private final int[] lines = new int[ALARMS];
        private final int[] shelfEnds = new int[ALARMS];

        boolean isActive(int alarm) {
            return isAlarm(alarm) && priorities[alarm] > 0;
        }

        int lineOf(int alarm) {
            return isActive(alarm) ? lines[alarm] : NONE;
        }

        void activate(int alarm, int priority, int line) {
            if (isAlarm(alarm)) {
                priorities[alarm] = priority;
                lines[alarm] = line;
                // What an earlier time of being active left on the shelf does not shelve this one.
                shelfEnds[alarm] = 0;
            }
        }

        void deactivate(int alarm) {
            if (isAlarm(alarm)) {
                priorities[alarm] = 0;
            }
        }

        boolean isOnShelf(int alarm, int hourNow) {
            return isActive(alarm) && hourNow < shelfEnds[alarm];
        }

        void putOnShelf(int alarm, int end) {
            if (isAlarm(alarm)) {
                shelfEnds[alarm] = end;
            }
        }

        int countOnShelf(int hourNow) {
            int count = 0;
            for (int alarm = 0; alarm < ALARMS; alarm++) {
                if (isOnShelf(alarm, hourNow)) {
                    count++;
                }
            }
            return count;
        }

        int countSounding(int leastPriority, int hourNow) {
            int count = 0;
            for (int alarm = 0; alarm < ALARMS; alarm++) {
                if (isSounding(alarm, hourNow) && priorities[alarm] >= leastPriority) {
                    count++;
                }
            }
            return count;
        }

        int topLine(int hourNow) {
            int best = NONE;
            for (int alarm = 0; alarm < ALARMS; alarm++) {
                if (isSounding(alarm, hourNow) && isAhead(alarm, best)) {
                    best = alarm;
                }
            }
            return lineOf(best);
        }

        private boolean isSounding(int alarm, int hourNow) {
            return isActive(alarm) && !isOnShelf(alarm, hourNow);
        }

        private boolean isAhead(int alarm, int other) {
            if (!isAlarm(other) || !isAlarm(alarm)) {
                return true;
            }
            if (priorities[alarm] != priorities[other]) {
                return priorities[alarm] > priorities[other];
            }
            return lines[alarm] < lines[other];
        }

        private static boolean isAlarm(int alarm) {
            return alarm >= 0 && alarm < ALARMS;
        }
    }

    /** The procedures and their steps; the place of a step is 8 times its procedure, plus its number. */
    private static final class ProcedureBook {
        private final int[] stepCounts = new int[MAX_PROCEDURES];
        private final int[] doneCounts = new int[MAX_PROCEDURES];
        private final int[] needed = new int[STEP_PLACES];
        private final int[] neededStates = new int[STEP_PLACES];
        private final int[] units = new int[STEP_PLACES];
        private final int[] newStates = new int[STEP_PLACES];
        private final int[] notedStates = new int[STEP_PLACES];
        private final int[] takenAt = new int[STEP_PLACES];
        private final int[] undoneLines = new int[STEP_PLACES];
        private int procedureCount;

        boolean isFull() {
            return procedureCount >= MAX_PROCEDURES;
        }

        boolean hasProcedure(int procedure) {
            return procedure >= 0 && procedure < procedureCount && procedure < MAX_PROCEDURES;
        }

        int append() {
            int procedure = procedureCount;
            procedureCount++;
            return procedure;
        }

        int appendStep(int procedure) {
            if (!hasProcedure(procedure) || stepCounts[procedure] >= MAX_STEPS) {
                return NONE;
            }
            int place = stepPlace(procedure, stepCounts[procedure]);
            stepCounts[procedure]++;
            if (isPlace(place)) {
                takenAt[place] = NONE;
                undoneLines[place] = NONE;
            }
            return place;
        }

        void setNeed(int place, int neededUnit, int neededState) {
            if (isPlace(place)) {
                needed[place] = neededUnit;
                neededStates[place] = neededState;
            }
        }

        void setEffect(int place, int unit, int newState) {
            if (isPlace(place)) {
                units[place] = unit;
                newStates[place] = newState;
            }
        }

        int stepCount(int procedure) {
            return hasProcedure(procedure) ? stepCounts[procedure] : 0;
        }

        int doneCount(int procedure) {
            return hasProcedure(procedure) ? doneCounts[procedure] : 0;
        }

        int nextPlace(int procedure) {
            int number = doneCount(procedure);
            return number < stepCount(procedure) ? stepPlace(procedure, number) : NONE;
        }

        int lastDonePlace(int procedure) {
            int count = doneCount(procedure);
            return count > 0 ? stepPlace(procedure, count - 1) : NONE;
        }

        void markTaken(int procedure, int notedState, int hourNow) {
            int place = nextPlace(procedure);
            if (hasProcedure(procedure) && isPlace(place)) {
                doneCounts[procedure]++;
                notedStates[place] = notedState;
                takenAt[place] = hourNow;
            }
        }

        void markUndone(int procedure, int line) {
            int place = lastDonePlace(procedure);
            if (hasProcedure(procedure) && isPlace(place)) {
                doneCounts[procedure]--;
                undoneLines[place] = line;
            }
        }

        void markNoneDone(int procedure) {
            if (hasProcedure(procedure)) {
                doneCounts[procedure] = 0;
            }
        }

        void markNotUndone(int place) {
            if (isPlace(place)) {
                undoneLines[place] = NONE;
            }
        }

        boolean isUndone(int place) {
            return isStep(place) && undoneLines[place] != NONE;
        }

        int undoneLineOf(int place) {
            return isStep(place) ? undoneLines[place] : NONE;
        }

        int neededOf(int place) {
            return isPlace(place) ? needed[place] : NONE;
        }

        int neededStateOf(int place) {
            return isPlace(place) ? neededStates[place] : NONE;
        }

        int unitOf(int place) {
            return isPlace(place) ? units[place] : NONE;
        }

        int newStateOf(int place) {
            return isPlace(place) ? newStates[place] : NONE;
        }

        int notedStateOf(int place) {
            return isPlace(place) ? notedStates[place] : NONE;
        }

        int longestNotTaken() {
            int best = NONE;
            for (int place = 0; place < STEP_PLACES; place++) {
                // The earlier place stays ahead of one that was taken in the same hour.
                if (isStep(place) && (!isPlace(best) || takenAt[place] < takenAt[best])) {
                    best = place;
                }
            }
            return best;
        }

        private boolean isStep(int place) {
            return isPlace(place) && stepNumber(place) < stepCount(place / MAX_STEPS);
        }

        private static boolean isPlace(int place) {
            return place >= 0 && place < STEP_PLACES;
        }
    }

    /** The permits, open and closed. */
    private static final class PermitRack {
        private final int[] unitSets = new int[MAX_PERMITS];
        private final int[] lines = new int[MAX_PERMITS];
        private final boolean[] open = new boolean[MAX_PERMITS];
        private int permitCount;

        boolean isFull() {
            return permitCount >= MAX_PERMITS;
        }

        boolean hasPermit(int permit) {
            return permit >= 0 && permit < permitCount && permit < MAX_PERMITS;
        }

        int append(int unitSet, int line) {
            int permit = permitCount;
            permitCount++;
            if (hasPermit(permit)) {
                unitSets[permit] = unitSet;
                lines[permit] = line;
                open[permit] = true;
            }
            return permit;
        }

        boolean isOpen(int permit) {
            return hasPermit(permit) && open[permit];
        }

        int lineOf(int permit) {
            return hasPermit(permit) ? lines[permit] : NONE;
        }

        void shut(int permit) {
            if (hasPermit(permit)) {
                open[permit] = false;
            }
        }

        int firstOpenWith(int unitSet) {
            for (int permit = 0; permit < MAX_PERMITS; permit++) {
                if (isOpen(permit) && (unitSets[permit] & unitSet) != 0) {
                    return permit;
                }
            }
            return NONE;
        }

        boolean areOpenApart() {
            int seen = 0;
            for (int permit = 0; permit < MAX_PERMITS; permit++) {
                if (isOpen(permit)) {
                    if ((unitSets[permit] & seen) != 0) {
                        return false;
                    }
                    seen |= unitSets[permit];
                }
            }
            return true;
        }
    }

    /** Who is on duty, who is handed over to, and until when the crews rest. */
    private static final class CrewRoster {
        private final int[] restEnds = new int[CREWS];
        private int current = NONE;
        private int coming = NONE;
        private int shiftStart;

        int crewOnDuty() {
            return current;
        }

        boolean isHandingOver() {
            return coming != NONE;
        }

        boolean isAtWork() {
            return current != NONE && coming == NONE;
        }

        boolean isWeary(int hourNow) {
            return current != NONE && hourNow - shiftStart >= TIRED_HOURS;
        }

        int restOf(int crew, int hourNow) {
            // A crew on duty was rested when it came, so that its rest has ended too.
            return isCrew(crew) && restEnds[crew] > hourNow ? restEnds[crew] - hourNow : 0;
        }

        void startShift(int crew, int hourNow) {
            current = crew;
            shiftStart = hourNow;
        }

        void startHandOver(int crew) {
            coming = crew;
        }

        void stopHandOver() {
            coming = NONE;
        }

        void changeShift(int hourNow) {
            if (isCrew(current)) {
                restEnds[current] = hourNow + REST_HOURS;
            }
            startShift(coming, hourNow);
            stopHandOver();
        }
    }
}
