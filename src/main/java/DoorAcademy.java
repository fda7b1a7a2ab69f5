import java.util.NoSuchElementException;

/**
 * A model of an academy of doors: doors hand in theses, examiners grade them without conflicts of
 * interest, failed doors appeal to panels, and degrees are entered in a register and revoked.
 */
public final class DoorAcademy {

    private static final int DOORS = 8;
    private static final int EXAMINERS = 6;
    private static final int TOPICS = 6;
    private static final char FIRST_FRAME = 'a';
    private static final char LAST_FRAME = 'f';
    private static final int MOST_EXAMINERS_OF_A_DOOR = 3;
    private static final int HIGHEST_GRADE = 20;
    private static final int PANEL_SIZE = 3;
    private static final int NONE = -1;

    // No answer of a changing method is negative, so negative answers tell why a call is refused.
    private static final int BAD_INDEX = -1;
    private static final int BAD_ARGUMENT = -2;
    private static final int BAD_STATE = -3;
    private static final int UNSUPPORTED = -4;
    private static final int NOT_THERE = -5;

    private final State present = new State();
    private final State saved = new State();
    private boolean hasSaved = false;
    private final History history = new History();
    private final Planner planner = new Planner();
    private final Panels panels = new Panels();
    private final Program program = new Program();
    private final Line line = new Line();
    private int storedErrorPosition = NONE;
    private int storedFailedCommand = NONE;

    public DoorAcademy() {
    }

    // ---- doors and examiners

    public int addDoor(char frame, int topic) throws IllegalArgumentException, IllegalStateException {
        history.prepare(present);
        return conclude(present.tryNewDoor(frame, topic));
    }

    public int addExaminer(char frame, int topics, int capacity, int lenience)
            throws IllegalArgumentException, IllegalStateException {
        history.prepare(present);
        return conclude(present.tryNewExaminer(frame, topics, capacity, lenience));
    }

    public int declareConflict(int examiner, int door)
            throws IndexOutOfBoundsException, IllegalStateException {
        history.prepare(present);
        return conclude(present.tryConflict(examiner, door));
    }

    // ---- assignments and grades

    public int assign(int examiner, int door)
            throws IndexOutOfBoundsException, IllegalStateException, UnsupportedOperationException {
        history.prepare(present);
        return conclude(present.tryAssignment(examiner, door));
    }

    public int carryOutPlan() {
        history.prepare(present);
        planner.findBest(present);
        return conclude(present.putPlan(planner.choices));
    }

    public int grade(int examiner, int door, int grade)
            throws IndexOutOfBoundsException, IllegalArgumentException, IllegalStateException {
        history.prepare(present);
        return conclude(present.tryGrade(examiner, door, grade));
    }

    public int setThreshold(int threshold) throws IllegalArgumentException {
        history.prepare(present);
        return conclude(present.tryThreshold(threshold));
    }

    // ---- appeals and degrees

    public int appeal(int door)
            throws IndexOutOfBoundsException, IllegalStateException, UnsupportedOperationException {
        history.prepare(present);
        return conclude(panels.tryAppeal(present, door));
    }

    public int award(int door)
            throws IndexOutOfBoundsException, IllegalStateException, UnsupportedOperationException {
        history.prepare(present);
        return conclude(present.tryAward(door));
    }

    public int revoke(int entry) throws NoSuchElementException, IllegalStateException {
        history.prepare(present);
        return conclude(present.tryRevocation(entry));
    }

    // ---- queries about doors

    public int doorCount() {
        return present.doors;
    }

    public char frameOfDoor(int door) throws IndexOutOfBoundsException {
        requireDoor(door);
        return present.doorFrames[door];
    }

    public int topic(int door) throws IndexOutOfBoundsException {
        requireDoor(door);
        return present.doorTopics[door];
    }

    public int examinersOf(int door) throws IndexOutOfBoundsException {
        requireDoor(door);
        return present.assignedCount(door);
    }

    public int gradesOf(int door) throws IndexOutOfBoundsException {
        requireDoor(door);
        return present.gradeCount(door);
    }

    public int result(int door) throws IndexOutOfBoundsException, NoSuchElementException {
        requireDoor(door);
        return requireThere(present.median(door));
    }

    public boolean passes(int door) throws IndexOutOfBoundsException {
        requireDoor(door);
        return present.hasPassed(door);
    }

    public boolean wasGranted(int door) throws IndexOutOfBoundsException {
        requireDoor(door);
        return contains(present.granted, door);
    }

    public boolean isEntitled(int door) throws IndexOutOfBoundsException {
        requireDoor(door);
        return present.deservesDegree(door);
    }

    public int doorAtRank(int rank) throws NoSuchElementException {
        return requireThere(present.doorRanked(rank));
    }

    // ---- queries about examiners

    public int examinerCount() {
        return present.examiners;
    }

    public char frameOfExaminer(int examiner) throws IndexOutOfBoundsException {
        requireExaminer(examiner);
        return present.examinerFrames[examiner];
    }

    public int load(int examiner) throws IndexOutOfBoundsException {
        requireExaminer(examiner);
        return present.loadOf(examiner);
    }

    public boolean isNeutral(int examiner, int door) throws IndexOutOfBoundsException {
        requirePair(examiner, door);
        return present.neutral(examiner, door);
    }

    public boolean mayJudge(int examiner, int door) throws IndexOutOfBoundsException {
        requirePair(examiner, door);
        return present.canJudge(examiner, door);
    }

    public boolean isAssigned(int examiner, int door) throws IndexOutOfBoundsException {
        requirePair(examiner, door);
        return present.assigned(examiner, door);
    }

    public int gradeBy(int examiner, int door) throws IndexOutOfBoundsException, NoSuchElementException {
        requirePair(examiner, door);
        return requireThere(present.grades[examiner][door]);
    }

    // ---- plans and panels

    public int planSize() {
        return planner.sizeByExchanges(present);
    }

    public int planSizeBySets() {
        return planner.sizeBySets(present);
    }

    public int plannedExaminer(int door) throws IndexOutOfBoundsException, NoSuchElementException {
        requireDoor(door);
        planner.findBest(present);
        return requireThere(planner.choices[door]);
    }

    public int panelCount(int door) throws IndexOutOfBoundsException {
        requireDoor(door);
        return panels.countByTrying(present, door);
    }

    public int panelCountByFrames(int door) throws IndexOutOfBoundsException {
        requireDoor(door);
        return panels.countByFrames(present, door);
    }

    public int panelMember(int door, int position)
            throws IndexOutOfBoundsException, IllegalArgumentException, NoSuchElementException {
        requireDoor(door);
        if (position < 0 || position >= PANEL_SIZE) {
            throw new IllegalArgumentException();
        }
        return requireThere(memberAt(panels.firstFor(present, door), position));
    }

    // ---- register and totals

    public int threshold() {
        return present.threshold;
    }

    public int entryCount() {
        return present.entries;
    }

    public int doorOf(int entry) throws NoSuchElementException {
        requireEntry(entry);
        return present.entryDoors[entry - 1];
    }

    public boolean isRevoked(int entry) throws NoSuchElementException {
        requireEntry(entry);
        return contains(present.revoked, entry);
    }

    public int assignments() {
        int sum = 0;
        for (int examiner = 0; examiner < present.examiners; examiner++) {
            sum += present.loadOf(examiner);
        }
        return sum;
    }

    public int assignmentsByDoors() {
        int sum = 0;
        for (int door = 0; door < present.doors; door++) {
            sum += present.assignedCount(door);
        }
        return sum;
    }

    public long gradeTotal() {
        long total = 0;
        for (int door = 0; door < present.doors; door++) {
            total += present.gradeSum(door);
        }
        return total;
    }

    public double meanGrade() throws ArithmeticException {
        int count = 0;
        for (int door = 0; door < present.doors; door++) {
            count += present.gradeCount(door);
        }
        if (count == 0) {
            throw new ArithmeticException();
        }
        return (double) gradeTotal() / (double) count;
    }

    public float passShare() throws ArithmeticException {
        int passing = 0;
        int withResult = 0;
        for (int door = 0; door < present.doors; door++) {
            if (present.median(door) != NONE) {
                withResult++;
            }
            if (present.hasPassed(door)) {
                passing++;
            }
        }
        if (withResult == 0) {
            throw new ArithmeticException();
        }
        return (float) passing / (float) withResult;
    }

    public boolean isConsistent() {
        return assignments() == assignmentsByDoors()
                && planner.sizeByExchanges(present) == planner.sizeBySets(present)
                && panelCountsAgree()
                && framesDiffer();
    }

    // ---- programs

    public int append(char character) throws IllegalStateException {
        if (program.isFull()) {
            throw new IllegalStateException();
        }
        program.extend(character);
        return program.length;
    }

    public int run() throws IllegalArgumentException, UnsupportedOperationException {
        int errorAt = program.parse();
        program.empty();
        if (errorAt != NONE) {
            storedErrorPosition = errorAt;
            throw new IllegalArgumentException();
        }
        history.prepare(present);
        for (int command = 0; command < program.commands; command++) {
            if (perform(program.kinds[command], program.operands[command]) < 0) {
                history.takeBack(present);
                storedFailedCommand = command;
                throw new UnsupportedOperationException();
            }
        }
        history.commit();
        return program.commands;
    }

    public int errorPosition() throws NoSuchElementException {
        return requireThere(storedErrorPosition);
    }

    public int failedCommand() throws NoSuchElementException {
        return requireThere(storedFailedCommand);
    }

    // ---- output

    public int writeDoor(int door) throws IndexOutOfBoundsException {
        requireDoor(door);
        line.showDoor(present, door);
        return line.length;
    }

    public int writeExaminer(int examiner) throws IndexOutOfBoundsException {
        requireExaminer(examiner);
        line.showExaminer(present, examiner);
        return line.length;
    }

    public char outputAt(int index) throws IndexOutOfBoundsException {
        if (index < 0 || index >= line.length) {
            throw new IndexOutOfBoundsException();
        }
        return line.characters[index];
    }

    // ---- undo and snapshot

    public int undo() throws IllegalStateException {
        if (history.kept == 0) {
            throw new IllegalStateException();
        }
        history.stepBack(present);
        return history.kept;
    }

    public void save() {
        saved.copyFrom(present);
        hasSaved = true;
    }

    public void restore() throws IllegalStateException {
        if (!hasSaved) {
            throw new IllegalStateException();
        }
        present.copyFrom(saved);
        history.forget();
    }

    // ---- what the face is made of

    /** Ends a changing call: its answer, or the exception that its refusal stands for. */
    private int conclude(int answer) {
        if (answer < 0) {
            refuse(answer);
        }
        history.commit();
        return answer;
    }

    private static void refuse(int reason) {
        switch (reason) {
            case BAD_INDEX:
                throw new IndexOutOfBoundsException();
            case BAD_ARGUMENT:
                throw new IllegalArgumentException();
            case BAD_STATE:
                throw new IllegalStateException();
            case UNSUPPORTED:
                throw new UnsupportedOperationException();
            default:
                throw new NoSuchElementException();
        }
    }

    private void requireDoor(int door) {
        if (!present.hasDoor(door)) {
            throw new IndexOutOfBoundsException();
        }
    }

    private void requireExaminer(int examiner) {
        if (!present.hasExaminer(examiner)) {
            throw new IndexOutOfBoundsException();
        }
    }

    private void requirePair(int examiner, int door) {
        requireExaminer(examiner);
        requireDoor(door);
    }

    private void requireEntry(int entry) {
        if (!present.hasEntry(entry)) {
            throw new NoSuchElementException();
        }
    }

    private static int requireThere(int value) {
        if (value == NONE) {
            throw new NoSuchElementException();
        }
        return value;
    }

    private boolean panelCountsAgree() {
        for (int door = 0; door < present.doors; door++) {
            if (panels.countByTrying(present, door) != panels.countByFrames(present, door)) {
                return false;
            }
        }
        return true;
    }

    private boolean framesDiffer() {
        for (int examiner = 0; examiner < present.examiners; examiner++) {
            for (int door = 0; door < present.doors; door++) {
                if (present.assigned(examiner, door)
                        && present.examinerFrames[examiner] == present.doorFrames[door]) {
                    return false;
                }
            }
        }
        return true;
    }

    /** Carries out a parsed command; its answer, or its refusal. */
    private int perform(int kind, int[] operands) {
        int first = operands[0];
        int second = operands[1];
        int third = operands[2];
        switch (kind) {
            case Program.DOOR:
                return present.tryNewDoor((char) first, second);
            case Program.EXAMINER:
                return present.tryNewExaminer((char) first, second, third, operands[3]);
            case Program.CONFLICT:
                return present.tryConflict(first, second);
            case Program.ASSIGN:
                return present.tryAssignment(first, second);
            case Program.PLAN:
                planner.findBest(present);
                return present.putPlan(planner.choices);
            case Program.GRADE:
                return present.tryGrade(first, second, third);
            case Program.THRESHOLD:
                return present.tryThreshold(first);
            case Program.APPEAL:
                return panels.tryAppeal(present, first);
            case Program.AWARD:
                return present.tryAward(first);
            default:
                return present.tryRevocation(first);
        }
    }

    private static boolean isFrame(char character) {
        return character >= FIRST_FRAME && character <= LAST_FRAME;
    }

    private static boolean contains(int set, int element) {
        return (set >> element & 1) == 1;
    }

    /** The member of the set at a position in ascending order, or NONE. */
    private static int memberAt(int set, int position) {
        int passed = 0;
        for (int examiner = 0; examiner < EXAMINERS; examiner++) {
            if (contains(set, examiner)) {
                if (passed == position) {
                    return examiner;
                }
                passed++;
            }
        }
        return NONE;
    }

    /** All that undo, save and restore concern, with the rules that need nothing else. */
    private static final class State {
        private static final int INITIAL_THRESHOLD = 10;
        private static final int MOST_CAPACITY = 4;
        private static final int MOST_LENIENCE = 9;
        private static final int GRADES_FOR_A_RESULT = 2;

        // Sets of doors and of entries are written as the sum of 2 to the power of each member.
        int appealed = 0;
        int granted = 0;
        int revoked = 0;

        int doors = 0;
        final char[] doorFrames = new char[DOORS];
        final int[] doorTopics = new int[DOORS];

        int examiners = 0;
        final char[] examinerFrames = new char[EXAMINERS];
        final int[] topicSets = new int[EXAMINERS];
        final int[] capacities = new int[EXAMINERS];
        final int[] leniences = new int[EXAMINERS];

        // For each examiner a set of doors.
        final int[] conflicts = new int[EXAMINERS];
        final int[] assignments = new int[EXAMINERS];
        // By examiner, then door; NONE where no grade has been given.
        final int[][] grades = new int[EXAMINERS][DOORS];
        int threshold = INITIAL_THRESHOLD;

        int entries = 0;
        final int[] entryDoors = new int[DOORS];

        State() {
            for (int examiner = 0; examiner < EXAMINERS; examiner++) {
                for (int door = 0; door < DOORS; door++) {
                    grades[examiner][door] = NONE;
                }
            }
        }

        void copyFrom(State other) {
            appealed = other.appealed;
            granted = other.granted;
            revoked = other.revoked;
            threshold = other.threshold;
            doors = other.doors;
            examiners = other.examiners;
            entries = other.entries;
            for (int door = 0; door < DOORS; door++) {
                doorFrames[door] = other.doorFrames[door];
                doorTopics[door] = other.doorTopics[door];
                entryDoors[door] = other.entryDoors[door];
            }
            for (int examiner = 0; examiner < EXAMINERS; examiner++) {
                examinerFrames[examiner] = other.examinerFrames[examiner];
                topicSets[examiner] = other.topicSets[examiner];
                capacities[examiner] = other.capacities[examiner];
                leniences[examiner] = other.leniences[examiner];
                conflicts[examiner] = other.conflicts[examiner];
                assignments[examiner] = other.assignments[examiner];
                for (int door = 0; door < DOORS; door++) {
                    grades[examiner][door] = other.grades[examiner][door];
                }
            }
        }

        boolean hasDoor(int door) {
            return door >= 0 && door < doors;
        }

        boolean hasExaminer(int examiner) {
            return examiner >= 0 && examiner < examiners;
        }

        boolean hasPair(int examiner, int door) {
            return hasExaminer(examiner) && hasDoor(door);
        }

        boolean hasEntry(int entry) {
            return entry >= 1 && entry <= entries;
        }

        boolean neutral(int examiner, int door) {
            return examinerFrames[examiner] != doorFrames[door]
                    && (conflicts[examiner] & 1 << door) == 0;
        }

        boolean canJudge(int examiner, int door) {
            return neutral(examiner, door) && contains(topicSets[examiner], doorTopics[door]);
        }

        boolean assigned(int examiner, int door) {
            return (assignments[examiner] & 1 << door) != 0;
        }

        int loadOf(int examiner) {
            return Integer.bitCount(assignments[examiner]);
        }

        int freeCapacity(int examiner) {
            return capacities[examiner] - loadOf(examiner);
        }

        int neutralCount(int door) {
            int count = 0;
            for (int examiner = 0; examiner < examiners; examiner++) {
                if (neutral(examiner, door)) {
                    count++;
                }
            }
            return count;
        }

        int assignedCount(int door) {
            int count = 0;
            for (int examiner = 0; examiner < examiners; examiner++) {
                if (assigned(examiner, door)) {
                    count++;
                }
            }
            return count;
        }

        int gradeCount(int door) {
            int count = 0;
            for (int examiner = 0; examiner < examiners; examiner++) {
                if (grades[examiner][door] != NONE) {
                    count++;
                }
            }
            return count;
        }

        int gradeSum(int door) {
            int sum = 0;
            for (int examiner = 0; examiner < examiners; examiner++) {
                if (grades[examiner][door] != NONE) {
                    sum += grades[examiner][door];
                }
            }
            return sum;
        }

        /** The result of the door, or NONE. */
        int median(int door) {
            int count = gradeCount(door);
            if (count < GRADES_FOR_A_RESULT) {
                return NONE;
            }
            int sum = gradeSum(door);
            if (count == GRADES_FOR_A_RESULT) {
                return sum / 2;
            }
            int lowest = HIGHEST_GRADE;
            int highest = 0;
            for (int examiner = 0; examiner < examiners; examiner++) {
                int grade = grades[examiner][door];
                if (grade != NONE) {
                    lowest = Math.min(lowest, grade);
                    highest = Math.max(highest, grade);
                }
            }
            // Of three grades only the middle one is left.
            return sum - lowest - highest;
        }

        boolean hasPassed(int door) {
            int median = median(door);
            return median != NONE && median >= threshold;
        }

        boolean deservesDegree(int door) {
            return hasPassed(door) || contains(granted, door);
        }

        /** The entry of the door in the register, or NONE. */
        int entryOf(int door) {
            for (int entry = 1; entry <= entries; entry++) {
                if (entryDoors[entry - 1] == door) {
                    return entry;
                }
            }
            return NONE;
        }

        boolean holdsDegree(int door) {
            int entry = entryOf(door);
            return entry != NONE && !contains(revoked, entry);
        }

        /** The door at the rank, or NONE. */
        int doorRanked(int rank) {
            for (int door = 0; door < doors; door++) {
                if (rankOf(door) == rank) {
                    return door;
                }
            }
            return NONE;
        }

        int rankOf(int door) {
            int ahead = 0;
            for (int other = 0; other < doors; other++) {
                if (ranksBefore(other, door)) {
                    ahead++;
                }
            }
            return ahead;
        }

        boolean ranksBefore(int one, int other) {
            int resultOfOne = median(one);
            int resultOfOther = median(other);
            // NONE is less than every result, so doors without one come last.
            if (resultOfOne != resultOfOther) {
                return resultOfOne > resultOfOther;
            }
            int gradesOfOne = gradeCount(one);
            int gradesOfOther = gradeCount(other);
            if (resultOfOne != NONE && gradesOfOne != gradesOfOther) {
                return gradesOfOne > gradesOfOther;
            }
            return one < other;
        }

        int tryNewDoor(char frame, int topic) {
            if (!isFrame(frame) || topic < 0 || topic >= TOPICS) {
                return BAD_ARGUMENT;
            }
            if (doors >= DOORS) {
                return BAD_STATE;
            }
            doorFrames[doors] = frame;
            doorTopics[doors] = topic;
            doors++;
            return doors - 1;
        }

        int tryNewExaminer(char frame, int topics, int capacity, int lenience) {
            if (!isFrame(frame) || topics < 1 || topics >= 1 << TOPICS
                    || capacity < 1 || capacity > MOST_CAPACITY
                    || lenience < 0 || lenience > MOST_LENIENCE) {
                return BAD_ARGUMENT;
            }
            if (examiners >= EXAMINERS) {
                return BAD_STATE;
            }
            examinerFrames[examiners] = frame;
            topicSets[examiners] = topics;
            capacities[examiners] = capacity;
            leniences[examiners] = lenience;
            examiners++;
            return examiners - 1;
        }

        int tryConflict(int examiner, int door) {
            if (!hasPair(examiner, door)) {
                return BAD_INDEX;
            }
            if (contains(conflicts[examiner], door) || assigned(examiner, door)) {
                return BAD_STATE;
            }
            conflicts[examiner] |= 1 << door;
            return neutralCount(door);
        }

        int tryAssignment(int examiner, int door) {
            if (!hasPair(examiner, door)) {
                return BAD_INDEX;
            }
            if (assigned(examiner, door) || assignedCount(door) >= MOST_EXAMINERS_OF_A_DOOR
                    || freeCapacity(examiner) <= 0) {
                return BAD_STATE;
            }
            if (!canJudge(examiner, door)) {
                return UNSUPPORTED;
            }
            assignments[examiner] |= 1 << door;
            return assignedCount(door);
        }

        /** Carries out a plan that is known to be one; the number of doors that get an examiner. */
        int putPlan(int[] choices) {
            int given = 0;
            for (int door = 0; door < doors; door++) {
                if (choices[door] != NONE) {
                    assignments[choices[door]] |= 1 << door;
                    given++;
                }
            }
            return given;
        }

        int tryGrade(int examiner, int door, int grade) {
            if (!hasPair(examiner, door)) {
                return BAD_INDEX;
            }
            if (grade < 0 || grade > HIGHEST_GRADE) {
                return BAD_ARGUMENT;
            }
            if (!assigned(examiner, door) || grades[examiner][door] != NONE) {
                return BAD_STATE;
            }
            grades[examiner][door] = grade;
            return gradeCount(door);
        }

        int tryThreshold(int wanted) {
            if (wanted < 0 || wanted > HIGHEST_GRADE) {
                return BAD_ARGUMENT;
            }
            int previous = threshold;
            threshold = wanted;
            return previous;
        }

        int tryAward(int door) {
            if (!hasDoor(door)) {
                return BAD_INDEX;
            }
            // A full register holds every door; the test keeps the index below in the row's bounds.
            if (entryOf(door) != NONE || entries >= DOORS) {
                return BAD_STATE;
            }
            if (!deservesDegree(door)) {
                return UNSUPPORTED;
            }
            entryDoors[entries] = door;
            entries++;
            return entries;
        }

        int tryRevocation(int entry) {
            if (!hasEntry(entry)) {
                return NOT_THERE;
            }
            if (contains(revoked, entry)) {
                return BAD_STATE;
            }
            revoked |= 1 << entry;
            return entryDoors[entry - 1];
        }
    }

    /** The states before the calls that can be undone. */
    private static final class History {
        private static final int DEPTH = 8;
        // One slot is always free: it holds the state before a call that may still be refused.
        private static final int SLOTS = DEPTH + 1;

        private final State[] slots = new State[SLOTS];
        private int free = 0;
        int kept = 0;

        History() {
            for (int slot = 0; slot < SLOTS; slot++) {
                slots[slot] = new State();
            }
        }

        void prepare(State present) {
            slots[free].copyFrom(present);
        }

        void takeBack(State present) {
            present.copyFrom(slots[free]);
        }

        void commit() {
            free = (free + 1) % SLOTS;
            kept = Math.min(kept + 1, DEPTH);
        }

        void stepBack(State present) {
            free = (free + DEPTH) % SLOTS;
            kept--;
            takeBack(present);
        }

        void forget() {
            kept = 0;
        }
    }

    /** Searches for greatest plans; its rows are made once and used again by every search. */
    private static final class Planner {
        private static final int DOOR_SETS = 1 << DOORS;

        private int doors = 0;
        // For each door the set of the examiners that a plan can give to it.
        private final int[] candidates = new int[DOORS];
        // For each examiner the number of doors that a plan can still give to it.
        private final int[] room = new int[EXAMINERS];
        final int[] choices = new int[DOORS];

        private final int[] given = new int[DOORS];
        private final int[] used = new int[EXAMINERS];
        private final int[] reachedFrom = new int[EXAMINERS];
        private final int[] queue = new int[DOORS];
        private final boolean[] reachable = new boolean[DOOR_SETS];

        int sizeByExchanges(State state) {
            survey(state);
            return greatestFrom(0);
        }

        int sizeBySets(State state) {
            survey(state);
            for (int set = 0; set < DOOR_SETS; set++) {
                reachable[set] = set == 0;
            }
            for (int examiner = 0; examiner < EXAMINERS; examiner++) {
                for (int turn = 0; turn < room[examiner]; turn++) {
                    extendSets(examiner);
                }
            }
            int size = 0;
            for (int set = 0; set < DOOR_SETS; set++) {
                if (reachable[set]) {
                    size = Math.max(size, Integer.bitCount(set));
                }
            }
            return size;
        }

        /** Puts the best plan into the choices: for each door its examiner, or NONE. */
        void findBest(State state) {
            survey(state);
            int left = greatestFrom(0);
            for (int door = 0; door < doors; door++) {
                choices[door] = bestChoice(door, left);
                if (choices[door] != NONE) {
                    room[choices[door]]--;
                    left--;
                }
            }
        }

        private void survey(State state) {
            doors = state.doors;
            for (int examiner = 0; examiner < EXAMINERS; examiner++) {
                room[examiner] = state.hasExaminer(examiner) ? state.freeCapacity(examiner) : 0;
            }
            for (int door = 0; door < doors; door++) {
                candidates[door] = candidatesFor(state, door);
            }
        }

        private static int candidatesFor(State state, int door) {
            if (state.assignedCount(door) >= MOST_EXAMINERS_OF_A_DOOR) {
                return 0;
            }
            int set = 0;
            for (int examiner = 0; examiner < state.examiners; examiner++) {
                if (state.canJudge(examiner, door) && !state.assigned(examiner, door)) {
                    set |= 1 << examiner;
                }
            }
            return set;
        }

        /** The first examiner with whom the doors from this one on still get as many as are left. */
        private int bestChoice(int door, int left) {
            for (int examiner = 0; examiner < EXAMINERS; examiner++) {
                if (contains(candidates[door], examiner) && room[examiner] > 0) {
                    room[examiner]--;
                    int size = 1 + greatestFrom(door + 1);
                    room[examiner]++;
                    if (size == left) {
                        return examiner;
                    }
                }
            }
            return NONE;
        }

        /** The size of a greatest plan for the doors from the first one on. */
        private int greatestFrom(int first) {
            for (int door = 0; door < DOORS; door++) {
                given[door] = NONE;
            }
            for (int examiner = 0; examiner < EXAMINERS; examiner++) {
                used[examiner] = 0;
            }
            int size = 0;
            for (int door = first; door < doors; door++) {
                if (addByExchanges(door)) {
                    size++;
                }
            }
            return size;
        }

        /** Looks for the shortest chain of exchanges that gives an examiner to one more door. */
        private boolean addByExchanges(int start) {
            queue[0] = start;
            int waiting = 1;
            int seen = 0;
            for (int head = 0; head < waiting && head < DOORS; head++) {
                int door = queue[head];
                for (int examiner = 0; examiner < EXAMINERS; examiner++) {
                    if (contains(candidates[door] & ~seen, examiner)) {
                        seen |= 1 << examiner;
                        reachedFrom[examiner] = door;
                        if (used[examiner] < room[examiner]) {
                            exchange(examiner);
                            return true;
                        }
                        waiting = enqueueDoorsOf(examiner, waiting);
                    }
                }
            }
            return false;
        }

        private int enqueueDoorsOf(int examiner, int waiting) {
            int end = waiting;
            for (int door = 0; door < doors; door++) {
                if (given[door] == examiner && end < DOORS) {
                    queue[end] = door;
                    end++;
                }
            }
            return end;
        }

        /** Goes back along the chain: each door takes the examiner that it reached. */
        private void exchange(int last) {
            used[last]++;
            int examiner = last;
            for (int step = 0; step < DOORS && examiner != NONE; step++) {
                int door = reachedFrom[examiner];
                int before = given[door];
                given[door] = examiner;
                examiner = before;
            }
        }

        /** Adds the sets that come from giving one more door to the examiner. */
        private void extendSets(int examiner) {
            // Sets only grow, so in descending order none that is added here is met again.
            for (int set = DOOR_SETS - 1; set >= 0; set--) {
                if (reachable[set]) {
                    for (int door = 0; door < doors; door++) {
                        if (!contains(set, door) && contains(candidates[door], examiner)) {
                            reachable[set | 1 << door] = true;
                        }
                    }
                }
            }
        }
    }

    /** Counts panels, finds the first one and lets it decide. */
    private static final class Panels {
        private static final int FRAMES = LAST_FRAME - FIRST_FRAME + 1;
        private static final int VOTES_TO_GRANT = 2;

        private final int[] suitableByFrame = new int[FRAMES];

        int countByTrying(State state, int door) {
            int count = 0;
            for (int one = 0; one < EXAMINERS; one++) {
                for (int two = one + 1; two < EXAMINERS; two++) {
                    for (int three = two + 1; three < EXAMINERS; three++) {
                        if (isPanel(state, door, one, two, three)) {
                            count++;
                        }
                    }
                }
            }
            return count;
        }

        int countByFrames(State state, int door) {
            for (int frame = 0; frame < FRAMES; frame++) {
                suitableByFrame[frame] = suitableWithFrame(state, door, (char) (FIRST_FRAME + frame));
            }
            int count = 0;
            for (int one = 0; one < FRAMES; one++) {
                for (int two = one + 1; two < FRAMES; two++) {
                    for (int three = two + 1; three < FRAMES; three++) {
                        count += suitableByFrame[one] * suitableByFrame[two] * suitableByFrame[three];
                    }
                }
            }
            return count;
        }

        /** The first panel as a set of examiners, or the empty set. */
        int firstFor(State state, int door) {
            for (int one = 0; one < EXAMINERS; one++) {
                for (int two = one + 1; two < EXAMINERS; two++) {
                    for (int three = two + 1; three < EXAMINERS; three++) {
                        if (isPanel(state, door, one, two, three)) {
                            return 1 << one | 1 << two | 1 << three;
                        }
                    }
                }
            }
            return 0;
        }

        int tryAppeal(State state, int door) {
            if (!state.hasDoor(door)) {
                return BAD_INDEX;
            }
            int result = state.median(door);
            if (result == NONE || result >= state.threshold || contains(state.appealed, door)) {
                return BAD_STATE;
            }
            int panel = firstFor(state, door);
            if (panel == 0) {
                return UNSUPPORTED;
            }
            int inFavour = votes(state, panel, state.threshold - result);
            state.appealed |= 1 << door;
            if (inFavour >= VOTES_TO_GRANT) {
                state.granted |= 1 << door;
            }
            return inFavour;
        }

        private static int votes(State state, int panel, int missing) {
            int inFavour = 0;
            for (int examiner = 0; examiner < state.examiners; examiner++) {
                if (contains(panel, examiner) && state.leniences[examiner] >= missing) {
                    inFavour++;
                }
            }
            return inFavour;
        }

        private static boolean isPanel(State state, int door, int one, int two, int three) {
            return suits(state, door, one) && suits(state, door, two) && suits(state, door, three)
                    && state.examinerFrames[one] != state.examinerFrames[two]
                    && state.examinerFrames[one] != state.examinerFrames[three]
                    && state.examinerFrames[two] != state.examinerFrames[three];
        }

        private static boolean suits(State state, int door, int examiner) {
            return state.hasExaminer(examiner) && state.neutral(examiner, door)
                    && !state.assigned(examiner, door);
        }

        private static int suitableWithFrame(State state, int door, char frame) {
            int count = 0;
            for (int examiner = 0; examiner < state.examiners; examiner++) {
                if (state.examinerFrames[examiner] == frame && suits(state, door, examiner)) {
                    count++;
                }
            }
            return count;
        }
    }

    /** The text buffer, and the commands of the program that was parsed last. */
    private static final class Program {
        static final int DOOR = 0;
        static final int EXAMINER = 1;
        static final int CONFLICT = 2;
        static final int ASSIGN = 3;
        static final int PLAN = 4;
        static final int GRADE = 5;
        static final int THRESHOLD = 6;
        static final int APPEAL = 7;
        static final int AWARD = 8;
        static final int REVOKE = 9;

        private static final int KINDS = 10;
        private static final int LONGEST_TEXT = 60;
        // With its semicolon. One row more than fits, as a full text may end with a semicolon.
        private static final int SHORTEST_COMMAND = 5;
        private static final int MOST_COMMANDS = LONGEST_TEXT / SHORTEST_COMMAND + 1;
        private static final int MOST_OPERANDS = 4;

        // Capital letters stand for operands, as no command contains one.
        private static final char A_FRAME = 'F';
        private static final char A_DIGIT = 'D';
        private static final char A_NUMBER = 'N';

        private final char[] text = new char[LONGEST_TEXT];
        int length = 0;
        int commands = 0;
        final int[] kinds = new int[MOST_COMMANDS];
        final int[][] operands = new int[MOST_COMMANDS][MOST_OPERANDS];

        boolean isFull() {
            return length >= LONGEST_TEXT;
        }

        void extend(char character) {
            if (length < LONGEST_TEXT) {
                text[length] = character;
                length++;
            }
        }

        void empty() {
            length = 0;
        }

        /** Reads the text; the error position, or NONE if the text is a program. */
        int parse() {
            int at = 0;
            commands = 0;
            for (int row = 0; row < MOST_COMMANDS; row++) {
                int end = readCommand(row, at);
                if (end < 0) {
                    return errorOf(end);
                }
                commands = row + 1;
                if (end >= length) {
                    return NONE;
                }
                if (text[end] != ';') {
                    return end;
                }
                at = end + 1;
            }
            return at;
        }

        /** Reads a command into the row; where it ends, or its error. */
        private int readCommand(int row, int start) {
            int farthest = start;
            for (int kind = 0; kind < KINDS; kind++) {
                int end = match(shapeOf(kind), row, start);
                if (end >= 0) {
                    kinds[row] = kind;
                    return end;
                }
                farthest = Math.max(farthest, errorOf(end));
            }
            return errorAt(farthest);
        }

        /** Reads a command of one shape into the row; where it ends, or its error. */
        private int match(String shape, int row, int start) {
            int at = start;
            int operand = 0;
            for (int step = 0; step < shape.length(); step++) {
                char wanted = shape.charAt(step);
                if (at >= length || !fits(wanted, text[at])) {
                    return errorAt(at);
                }
                int value = text[at];
                at++;
                if (wanted == A_DIGIT || wanted == A_NUMBER) {
                    value -= '0';
                }
                if (wanted == A_NUMBER && at < length && isDigit(text[at])) {
                    value = value * 10 + text[at] - '0';
                    at++;
                }
                if (isOperand(wanted) && operand < MOST_OPERANDS) {
                    operands[row][operand] = value;
                    operand++;
                }
            }
            return at;
        }

        private static String shapeOf(int kind) {
            switch (kind) {
                case DOOR:
                    return "door F D";
                case EXAMINER:
                    return "examiner F N D D";
                case CONFLICT:
                    return "conflict D D";
                case ASSIGN:
                    return "assign D D";
                case PLAN:
                    return "plan";
                case GRADE:
                    return "grade D D N";
                case THRESHOLD:
                    return "threshold N";
                case APPEAL:
                    return "appeal D";
                case AWARD:
                    return "award D";
                default:
                    return "revoke D";
            }
        }

        private static boolean fits(char wanted, char character) {
            if (wanted == A_FRAME) {
                return isFrame(character);
            }
            if (wanted == A_DIGIT || wanted == A_NUMBER) {
                return isDigit(character);
            }
            return wanted == character;
        }

        private static boolean isOperand(char wanted) {
            return wanted == A_FRAME || wanted == A_DIGIT || wanted == A_NUMBER;
        }

        private static boolean isDigit(char character) {
            return character >= '0' && character <= '9';
        }

        // An error is told as a negative number, so that it differs from every end of a command.
        private static int errorAt(int position) {
            return -1 - position;
        }

        private static int errorOf(int told) {
            return -1 - told;
        }
    }

    /** The output line. */
    private static final class Line {
        private static final int LONGEST = 32;

        final char[] characters = new char[LONGEST];
        int length = 0;

        void showDoor(State state, int door) {
            length = 0;
            put(state.doorFrames[door]);
            putNumber(state.doorTopics[door]);
            for (int examiner = 0; examiner < state.examiners; examiner++) {
                if (state.assigned(examiner, door)) {
                    put(' ');
                    putNumber(examiner);
                    putIfThere(':', state.grades[examiner][door]);
                }
            }
            putIfThere('=', state.median(door));
            if (state.holdsDegree(door)) {
                put('*');
            }
        }

        void showExaminer(State state, int examiner) {
            length = 0;
            put(state.examinerFrames[examiner]);
            putNumber(state.loadOf(examiner));
            put('/');
            putNumber(state.capacities[examiner]);
            put('#');
            for (int topic = 0; topic < TOPICS; topic++) {
                if (contains(state.topicSets[examiner], topic)) {
                    putNumber(topic);
                }
            }
            put('+');
            putNumber(state.leniences[examiner]);
        }

        private void putIfThere(char mark, int number) {
            if (number != NONE) {
                put(mark);
                putNumber(number);
            }
        }

        private void putNumber(int number) {
            if (number >= 10) {
                put((char) ('0' + number / 10));
            }
            put((char) ('0' + number % 10));
        }

        private void put(char character) {
            if (length < LONGEST) {
                characters[length] = character;
                length++;
            }
        }
    }
}
