import java.util.List;
import java.util.NoSuchElementException;

/**
 * Every condition under which the document has a call refused: just beyond the boundary, far beyond
 * it and where numbers wrap around. Of every refused call it is tested that it changes nothing that a
 * later call would show.
 */
final class Refusals {

    private static final Class<IllegalArgumentException> ARGUMENT = IllegalArgumentException.class;
    private static final Class<IllegalStateException> STATE = IllegalStateException.class;
    private static final Class<IndexOutOfBoundsException> INDEX = IndexOutOfBoundsException.class;
    private static final Class<UnsupportedOperationException> UNSUPPORTED = UnsupportedOperationException.class;
    private static final Class<NoSuchElementException> MISSING = NoSuchElementException.class;
    private static final Class<ArithmeticException> ARITHMETIC = ArithmeticException.class;
    private static final int LEAST = Integer.MIN_VALUE;
    private static final int MOST = Integer.MAX_VALUE;

    private static final String NO_DOOR = "Throws `IndexOutOfBoundsException` if there is no such door";
    private static final String NO_EXAMINER = "Throws `IndexOutOfBoundsException` if there is no such examiner";
    private static final String NO_PAIR = "Throws `IndexOutOfBoundsException` if there is no such examiner or door";
    private static final String NO_ENTRY = "Throws `NoSuchElementException` if there is no such entry";

    private static final List<Twins.Setup> SETUPS =
            List.of(Academies::empty, Academies::busy, Academies::crowded, Academies::decorated);

    private interface WithIndex {
        Object answer(DoorAcademy academy, int index);
    }

    private interface WithPair {
        Object answer(DoorAcademy academy, int examiner, int door);
    }

    private final Sentences sentences;

    Refusals(Sentences sentences) {
        this.sentences = sentences;
    }

    void all() {
        addDoor();
        addExaminer();
        indices();
        entries();
        declareConflict();
        assign();
        grade();
        setThreshold();
        appeal();
        award();
        revoke();
        missingAnswers();
        panelMember();
        totals();
        textBuffer();
        storedNumbers();
        output();
        undoAndRestore();
        severalConditions();
    }

    private void refused(String what, Class<? extends RuntimeException> want, Twins.Setup setup, Twins.On call) {
        sentences.refusedWithoutTrace(what, want, setup, call);
    }

    private void refusedWhenBusy(String what, Class<? extends RuntimeException> want, Twins.On call) {
        refused(what, want, Academies::busy, call);
    }

    /** Indices that a row of this length does not have; shifts and bytes wrap around at some of them. */
    private static int[] indicesBeyond(int length) {
        return new int[] {-1, length, length + 1, 16, 31, 32, 33, 64, 256, 65536, -31, -32, -256, LEAST, LEAST + 1,
            LEAST + 2, MOST, MOST - 1};
    }

    /** Entries are numbered from 1. */
    private static int[] entriesBeyond(int count) {
        return new int[] {0, count + 1, count + 2, -1, 16, 32, 33, 34, 64, 65, 256, 257, -31, -32, LEAST, LEAST + 1,
            LEAST + 2, MOST};
    }

    // ---- doors and examiners

    private void addDoor() {
        sentences.ofPromise(2, "Throws `IllegalArgumentException` if the frame or the topic is out of range");
        for (char frame : framesOutOfRange()) {
            refusedWhenBusy("frame " + (int) frame, ARGUMENT, academy -> academy.addDoor(frame, 0));
        }
        for (int topic : new int[] {-1, 6, 7, 32, 64, -32, LEAST, MOST, '0'}) {
            refusedWhenBusy("topic " + topic, ARGUMENT, academy -> academy.addDoor('a', topic));
        }
        sentences.ofPromise(2, "Throws `IllegalStateException` if there are 8 doors");
        refused("a ninth", STATE, Academies::crowded, academy -> academy.addDoor('a', 0));
        refused("a ninth of another kind", STATE, Academies::full, academy -> academy.addDoor('f', 5));
    }

    private static char[] framesOutOfRange() {
        return new char[] {'`', 'g', 'A', 'F', '\0', ' ', '0', 'z', (char) ('a' + 128), (char) ('a' + 256),
            (char) ('f' + 0x8000), '\uffff'};
    }

    private void addExaminer() {
        sentences.ofPromise(3, "Throws `IllegalArgumentException` if the frame, the set of topics, the capacity or"
                + " the lenience is out of range");
        for (char frame : framesOutOfRange()) {
            refusedWhenBusy("frame " + (int) frame, ARGUMENT, academy -> academy.addExaminer(frame, 1, 1, 0));
        }
        for (int topics : new int[] {0, 64, -1, 65, 127, 128, -63, -64, 1 << 30, LEAST, LEAST + 1, MOST}) {
            refusedWhenBusy("topics " + topics, ARGUMENT, academy -> academy.addExaminer('a', topics, 1, 0));
        }
        for (int capacity : new int[] {0, 5, -1, 256, 257, LEAST, LEAST + 1, MOST}) {
            refusedWhenBusy("capacity " + capacity, ARGUMENT, academy -> academy.addExaminer('a', 1, capacity, 0));
        }
        for (int lenience : new int[] {-1, 10, 11, 256, LEAST, MOST}) {
            refusedWhenBusy("lenience " + lenience, ARGUMENT, academy -> academy.addExaminer('a', 1, 1, lenience));
        }
        sentences.ofPromise(3, "Throws `IllegalStateException` if there are 6 examiners");
        refused("a seventh", STATE, Academies::crowded, academy -> academy.addExaminer('a', 1, 1, 0));
        refused("a seventh of another kind", STATE, Academies::full, academy -> academy.addExaminer('f', 63, 4, 9));
    }

    // ---- indices and numbers of entries

    private void indices() {
        noSuchDoor(9, DoorAcademy::appeal);
        noSuchDoor(10, DoorAcademy::award);
        noSuchDoor(13, DoorAcademy::frameOfDoor);
        noSuchDoor(14, DoorAcademy::topic);
        noSuchDoor(15, DoorAcademy::examinersOf);
        noSuchDoor(16, DoorAcademy::gradesOf);
        noSuchDoor(17, DoorAcademy::result);
        noSuchDoor(18, DoorAcademy::passes);
        noSuchDoor(19, DoorAcademy::wasGranted);
        noSuchDoor(20, DoorAcademy::isEntitled);
        noSuchDoor(31, DoorAcademy::plannedExaminer);
        noSuchDoor(32, DoorAcademy::panelCount);
        noSuchDoor(33, DoorAcademy::panelCountByFrames);
        noSuchDoor(34, (academy, door) -> academy.panelMember(door, 0));
        noSuchDoor(49, DoorAcademy::writeDoor);
        noSuchExaminer(23, DoorAcademy::frameOfExaminer);
        noSuchExaminer(24, DoorAcademy::load);
        noSuchExaminer(50, DoorAcademy::writeExaminer);
        noSuchPair(4, DoorAcademy::declareConflict);
        noSuchPair(5, DoorAcademy::assign);
        noSuchPair(7, (academy, examiner, door) -> academy.grade(examiner, door, 10));
        noSuchPair(25, DoorAcademy::isNeutral);
        noSuchPair(26, DoorAcademy::mayJudge);
        noSuchPair(27, DoorAcademy::isAssigned);
        noSuchPair(28, DoorAcademy::gradeBy);
    }

    private void noSuchDoor(int promise, WithIndex call) {
        sentences.ofPromise(promise, NO_DOOR);
        for (Twins.Setup setup : SETUPS) {
            int doors = setup.make().doorCount();
            for (int door : indicesBeyond(doors)) {
                refused("door " + door + " of " + doors, INDEX, setup, academy -> call.answer(academy, door));
            }
            for (int index = 0; index < doors; index++) {
                int door = index;
                isThere("door " + door + " of " + doors, () -> call.answer(setup.make(), door));
            }
        }
    }

    private void noSuchExaminer(int promise, WithIndex call) {
        sentences.ofPromise(promise, NO_EXAMINER);
        for (Twins.Setup setup : SETUPS) {
            int examiners = setup.make().examinerCount();
            for (int examiner : indicesBeyond(examiners)) {
                refused("examiner " + examiner + " of " + examiners, INDEX, setup,
                        academy -> call.answer(academy, examiner));
            }
            for (int index = 0; index < examiners; index++) {
                int examiner = index;
                isThere("examiner " + examiner + " of " + examiners, () -> call.answer(setup.make(), examiner));
            }
        }
    }

    private void noSuchPair(int promise, WithPair call) {
        sentences.ofPromise(promise, NO_PAIR);
        for (Twins.Setup setup : SETUPS) {
            int doors = setup.make().doorCount();
            int examiners = setup.make().examinerCount();
            for (int examiner : indicesBeyond(examiners)) {
                refused("examiner " + examiner + " of " + examiners, INDEX, setup,
                        academy -> call.answer(academy, examiner, 0));
            }
            for (int door : indicesBeyond(doors)) {
                refused("door " + door + " of " + doors, INDEX, setup, academy -> call.answer(academy, 0, door));
            }
            for (int pair = 0; pair < examiners * doors; pair++) {
                int examiner = pair % examiners;
                int door = pair / examiners;
                isThere("examiner " + examiner + ", door " + door, () -> call.answer(setup.make(), examiner, door));
            }
        }
    }

    private void isThere(String what, Checks.Call call) {
        boolean refused = Checks.outcome(call).equals("throws " + INDEX.getSimpleName());
        sentences.due(what + " is there", !refused, true);
    }

    private void entries() {
        noSuchEntry(11, DoorAcademy::revoke);
        noSuchEntry(37, DoorAcademy::doorOf);
        noSuchEntry(38, DoorAcademy::isRevoked);
    }

    private void noSuchEntry(int promise, WithIndex call) {
        sentences.ofPromise(promise, NO_ENTRY);
        for (Twins.Setup setup : SETUPS) {
            int entries = setup.make().entryCount();
            for (int entry : entriesBeyond(entries)) {
                refused("entry " + entry + " of " + entries, MISSING, setup, academy -> call.answer(academy, entry));
            }
        }
        for (int entry = 1; entry <= 8; entry++) {
            int number = entry;
            Object answer = Checks.outcome(() -> call.answer(Academies.decorated(), number));
            sentences.due("entry " + entry + " of 8 is there", answer.equals("throws NoSuchElementException"), false);
        }
    }

    // ---- changing calls

    private void declareConflict() {
        sentences.ofPromise(4, "Throws `IllegalStateException` if a conflict between them is declared, or the"
                + " examiner is assigned to the door");
        refusedWhenBusy("declared", STATE, academy -> academy.declareConflict(4, 2));
        refusedWhenBusy("assigned, and has given a grade", STATE, academy -> academy.declareConflict(0, 0));
        refusedWhenBusy("assigned, without a grade", STATE, academy -> academy.declareConflict(3, 3));
        Twins.Setup sameFrame = () -> Academies.after(Academies.busy(), academy -> academy.declareConflict(0, 3));
        refused("declared though the frames are the same", STATE, sameFrame,
                academy -> academy.declareConflict(0, 3));
        refused("the last examiner and the last door", STATE,
                () -> Academies.after(Academies.crowded(), academy -> academy.declareConflict(5, 7)),
                academy -> academy.declareConflict(5, 7));
    }

    private void assign() {
        sentences.ofPromise(5, "Throws `IllegalStateException` if the examiner is assigned to the door, the door has"
                + " 3 examiners, or the load of the examiner is the capacity");
        refusedWhenBusy("assigned", STATE, academy -> academy.assign(0, 0));
        refusedWhenBusy("assigned, without a grade", STATE, academy -> academy.assign(2, 2));
        refused("3 examiners", STATE,
                () -> Academies.after(Academies.busy(), academy -> academy.addDoor('f', 0),
                        academy -> academy.assign(0, 5), academy -> academy.assign(1, 5),
                        academy -> academy.assign(2, 5)),
                academy -> academy.assign(4, 5));
        refusedWhenBusy("load 1 of 1", STATE, academy -> academy.assign(3, 4));
        refused("load 4 of 4", STATE, () -> {
            DoorAcademy academy = Academies.wide(5, "ab", "00");
            for (int door = 0; door < 4; door++) {
                academy.assign(0, door);
            }
            return academy;
        }, academy -> academy.assign(0, 4));
        sentences.ofPromise(5, "Throws `UnsupportedOperationException` if the examiner may not judge the door");
        refusedWhenBusy("same frame", UNSUPPORTED, academy -> academy.assign(0, 3));
        refusedWhenBusy("other topic", UNSUPPORTED, academy -> academy.assign(1, 4));
        refused("conflict", UNSUPPORTED,
                () -> Academies.after(Academies.busy(), academy -> academy.declareConflict(4, 0)),
                academy -> academy.assign(4, 0));
    }

    private void grade() {
        sentences.ofPromise(7, "Throws `IllegalArgumentException` if the grade is out of range");
        for (int grade : new int[] {-1, 21, 22, -2, 256, LEAST, LEAST + 20, MOST}) {
            refusedWhenBusy("grade " + grade, ARGUMENT, academy -> academy.grade(2, 2, grade));
        }
        sentences.ofPromise(7, "Throws `IllegalStateException` if the examiner is not assigned to the door, or has"
                + " given it a grade");
        refusedWhenBusy("not assigned", STATE, academy -> academy.grade(4, 0, 10));
        refusedWhenBusy("assigned to another door", STATE, academy -> academy.grade(3, 0, 10));
        refusedWhenBusy("may not judge", STATE, academy -> academy.grade(0, 3, 10));
        refusedWhenBusy("given", STATE, academy -> academy.grade(0, 0, 13));
        refusedWhenBusy("given, the same one", STATE, academy -> academy.grade(0, 0, 12));
        refusedWhenBusy("given, the lowest", STATE, academy -> academy.grade(1, 2, 0));
    }

    private void setThreshold() {
        sentences.ofPromise(8, "Throws `IllegalArgumentException` if the threshold is out of range");
        for (int threshold : new int[] {-1, 21, 22, 256, LEAST, LEAST + 10, MOST}) {
            refusedWhenBusy("threshold " + threshold, ARGUMENT, academy -> academy.setThreshold(threshold));
        }
    }

    private static DoorAcademy withOneGrade() {
        DoorAcademy academy = Academies.busy();
        academy.assign(2, 4);
        academy.assign(4, 4);
        academy.grade(2, 4, 20);
        return academy;
    }

    /** Door 0 fails with result 5 and has a granted appeal. */
    private static DoorAcademy withGrantedAppeal() {
        DoorAcademy academy = Academies.graded(Academies.wide(2, "abcde", "00990"), 0, 5, 5);
        academy.appeal(0);
        return academy;
    }

    /** Door 0 fails with result 5, and there is no panel for it. */
    private static DoorAcademy withoutPanel() {
        DoorAcademy academy = Academies.graded(Academies.wide(2, "abcde", "99999"), 0, 5, 5);
        academy.declareConflict(3, 0);
        return academy;
    }

    private void appeal() {
        sentences.ofPromise(9, "Throws `IllegalStateException` if the door has no result, passes, or has appealed");
        refusedWhenBusy("no examiner", STATE, academy -> academy.appeal(4));
        refusedWhenBusy("no grade", STATE, academy -> academy.appeal(3));
        refused("one grade", STATE, Refusals::withOneGrade, academy -> academy.appeal(4));
        refusedWhenBusy("passes", STATE, academy -> academy.appeal(0));
        refusedWhenBusy("passes just so", STATE, academy -> academy.appeal(2));
        refusedWhenBusy("has appealed in vain", STATE, academy -> academy.appeal(1));
        refused("has appealed with success", STATE, Refusals::withGrantedAppeal, academy -> academy.appeal(0));
        refused("has appealed at another threshold", STATE,
                () -> Academies.after(Academies.busy(), academy -> academy.setThreshold(4)),
                academy -> academy.appeal(1));
        sentences.ofPromise(9, "Throws `UnsupportedOperationException` if there is no panel for the door");
        refused("2 examiners are left", UNSUPPORTED, Refusals::withoutPanel, academy -> academy.appeal(0));
        refused("no examiner is left", UNSUPPORTED, () -> Academies.graded(Academies.wide(1, "ab", "99"), 0, 5, 5),
                academy -> academy.appeal(0));
        refused("2 frames are left", UNSUPPORTED,
                () -> Academies.graded(Academies.wide(1, "abcddc", "999999"), 0, 5, 5), academy -> academy.appeal(0));
    }

    private void award() {
        sentences.ofPromise(10, "Throws `IllegalStateException` if the door has an entry");
        refusedWhenBusy("entry", STATE, academy -> academy.award(0));
        refusedWhenBusy("revoked entry", STATE, academy -> academy.award(2));
        for (int index = 0; index < 8; index++) {
            int door = index;
            refused("full register", STATE, Academies::decorated, academy -> academy.award(door));
        }
        sentences.ofPromise(10, "Throws `UnsupportedOperationException` if the door is not entitled to a degree");
        refusedWhenBusy("no grade", UNSUPPORTED, academy -> academy.award(3));
        refused("one grade", UNSUPPORTED, Refusals::withOneGrade, academy -> academy.award(4));
        refusedWhenBusy("has appealed in vain", UNSUPPORTED, academy -> academy.award(1));
        refused("fails", UNSUPPORTED, Refusals::withoutPanel, academy -> academy.award(0));
        refused("fails by one", UNSUPPORTED, () -> Academies.graded(Academies.wide(1, "ab", "00"), 0, 10, 9),
                academy -> academy.award(0));
    }

    private void revoke() {
        sentences.ofPromise(11, "Throws `IllegalStateException` if its degree is revoked");
        refusedWhenBusy("revoked", STATE, academy -> academy.revoke(2));
        refused("the eighth, revoked", STATE,
                () -> Academies.after(Academies.decorated(), academy -> academy.revoke(8)),
                academy -> academy.revoke(8));
    }

    // ---- queries

    private void missingAnswers() {
        sentences.ofPromise(17, "Throws `NoSuchElementException` if it has no result");
        refusedWhenBusy("no examiner", MISSING, academy -> academy.result(4));
        refusedWhenBusy("no grade", MISSING, academy -> academy.result(3));
        refused("one grade", MISSING, Refusals::withOneGrade, academy -> academy.result(4));
        sentences.ofPromise(21, "Throws `NoSuchElementException` if the rank is negative or not less than the number"
                + " of doors");
        for (Twins.Setup setup : SETUPS) {
            for (int rank : indicesBeyond(setup.make().doorCount())) {
                refused("rank " + rank, MISSING, setup, academy -> academy.doorAtRank(rank));
            }
        }
        sentences.ofPromise(28, "Throws `NoSuchElementException` if the examiner has not given it a grade");
        refusedWhenBusy("assigned", MISSING, academy -> academy.gradeBy(2, 2));
        refusedWhenBusy("not assigned", MISSING, academy -> academy.gradeBy(4, 0));
        refusedWhenBusy("may not judge", MISSING, academy -> academy.gradeBy(0, 3));
        sentences.ofPromise(31, "Throws `NoSuchElementException` if the best plan gives it none");
        refusedWhenBusy("3 examiners", MISSING, academy -> academy.plannedExaminer(2));
        refused("nobody may judge", MISSING, Refusals::withOneOfEach, academy -> academy.plannedExaminer(2));
        refused("an earlier door gets the only one", MISSING, Refusals::withOneOfEach,
                academy -> academy.plannedExaminer(1));
        refused("assigned already", MISSING,
                () -> Academies.after(Academies.wide(1, "a", "0"), academy -> academy.assign(0, 0)),
                academy -> academy.plannedExaminer(0));
        refused("no capacity is left", MISSING, Academies::full, academy -> academy.plannedExaminer(7));
        refused("no examiners", MISSING, () -> Academies.wide(1, "", ""), academy -> academy.plannedExaminer(0));
    }

    /** Doors 0 and 1 can have the only examiner, who has capacity 1; door 2 can have nobody. */
    private static DoorAcademy withOneOfEach() {
        DoorAcademy academy = Academies.wide(2, "", "");
        academy.addDoor('f', 1);
        academy.addExaminer('a', 1, 1, 0);
        return academy;
    }

    private void panelMember() {
        sentences.ofPromise(34, "Throws `IllegalArgumentException` if the position is out of range");
        for (int position : indicesBeyond(3)) {
            refusedWhenBusy("position " + position, ARGUMENT, academy -> academy.panelMember(1, position));
        }
        sentences.ofPromise(34, "Throws `NoSuchElementException` if there is no panel for the door");
        for (int index = 0; index < 3; index++) {
            int position = index;
            refusedWhenBusy("position " + position, MISSING, academy -> academy.panelMember(2, position));
            refused("no examiners", MISSING, () -> Academies.wide(1, "", ""),
                    academy -> academy.panelMember(0, position));
            refused("2 frames", MISSING, () -> Academies.wide(1, "abbaab", "000000"),
                    academy -> academy.panelMember(0, position));
        }
    }

    private void totals() {
        sentences.ofPromise(42, "Throws `ArithmeticException` if there are no grades");
        refused("new object", ARITHMETIC, Academies::empty, DoorAcademy::meanGrade);
        refused("assignments alone", ARITHMETIC, Academies::full, DoorAcademy::meanGrade);
        sentences.ofPromise(43, "Throws `ArithmeticException` if no door has a result");
        refused("new object", ARITHMETIC, Academies::empty, DoorAcademy::passShare);
        refused("no grades", ARITHMETIC, Academies::full, DoorAcademy::passShare);
        refused("one grade each", ARITHMETIC, () -> {
            DoorAcademy academy = Academies.full();
            for (int door = 0; door < 8; door++) {
                academy.grade(door < 4 ? 0 : 3, door, 20);
            }
            return academy;
        }, DoorAcademy::passShare);
    }

    // ---- text buffer and output line

    private void textBuffer() {
        sentences.ofPromise(45, "Throws `IllegalStateException` if the buffer contains 60 characters");
        Twins.Setup program = () -> Academies.type(Academies.typeless(), "plan;".repeat(11) + "award");
        Twins.Setup other = () -> Academies.type(Academies.typeless(), "door a 0;".repeat(6) + "plan;x");
        for (char character : new char[] {'p', ';', ' ', '\0', '\uffff'}) {
            refused("character " + (int) character, STATE, program, academy -> academy.append(character));
            refused("character " + (int) character, STATE, other, academy -> academy.append(character));
        }
        sentences.ofPromise(46, "Throws `IllegalArgumentException` if the text is not a program; the error position"
                + " is stored");
        for (String text : new String[] {"", "plan;", "threshold 9;plan;x", "door a 0 ", "award 9;assign"}) {
            refusedRun(text, ARGUMENT, "errorPosition");
        }
        sentences.due("stored", errorPositionOf("threshold 9;plan;x"), 17);
        sentences.ofPromise(46, "Throws `UnsupportedOperationException` if a command fails, that is, if its method"
                + " would throw an exception; the index of the command, from 0, is stored as the failed command");
        for (String text : new String[] {"door a 6", "threshold 9;door a 0;examiner a 0 1 1", "conflict 1 3;award 4",
            "assign 4 0;grade 4 0 0;assign 4 0", "plan;plan;plan;grade 0 0 1", "threshold 2;award 1;revoke 4",
            "revoke 1;revoke 1", "threshold 1;appeal 1", "examiner f 63 4 9;examiner f 63 4 9"}) {
            refusedRun(text, UNSUPPORTED, "failedCommand");
        }
        sentences.due("from 0", failedCommandOf("award 4"), 0);
        sentences.due("the second", failedCommandOf("revoke 1;revoke 1"), 1);
        sentences.due("the eleventh, as no later one that can fail fits",
                failedCommandOf("plan;".repeat(10) + "award 4"), 10);
        sentences.due("a success stores none", failedCommandOf("plan"), 2);
    }

    /** Nothing but the stored number and the emptied buffer tells a refused run from none. */
    private void refusedRun(String text, Class<? extends RuntimeException> want, String stored) {
        Twins.On typeAndRun = academy -> Academies.run(academy, text);
        sentences.due("run of " + text, typeAndRun.answer(Academies.typeless()), "throws " + want.getSimpleName());
        sentences.due("run of " + text + ", then", Twins.afterCall(Academies::typeless, typeAndRun, stored),
                Twins.NO_DIFFERENCE);
        sentences.due("empty after " + text, emptyAfter(text), 1);
    }

    private static int emptyAfter(String text) {
        DoorAcademy academy = Academies.typeless();
        Academies.run(academy, text);
        return academy.append('p');
    }

    private static Object errorPositionOf(String text) {
        DoorAcademy academy = Academies.typeless();
        Academies.run(academy, text);
        return Checks.outcome(academy::errorPosition);
    }

    private static Object failedCommandOf(String text) {
        DoorAcademy academy = Academies.typeless();
        Academies.run(academy, text);
        return Checks.outcome(academy::failedCommand);
    }

    private void storedNumbers() {
        sentences.ofPromise(47, "Throws `NoSuchElementException` if none was stored");
        refused("new object", MISSING, Academies::empty, DoorAcademy::errorPosition);
        refused("a failed command alone", MISSING, () -> ran("plan;award 0"), DoorAcademy::errorPosition);
        refused("a success alone", MISSING, () -> ran("plan"), DoorAcademy::errorPosition);
        sentences.ofPromise(48, "Throws `NoSuchElementException` if none was stored");
        refused("new object", MISSING, Academies::empty, DoorAcademy::failedCommand);
        refused("an error position alone", MISSING, () -> ran("plan;"), DoorAcademy::failedCommand);
        refused("a success alone", MISSING, () -> ran("plan"), DoorAcademy::failedCommand);
    }

    private static DoorAcademy ran(String text) {
        DoorAcademy academy = new DoorAcademy();
        Academies.run(academy, text);
        return academy;
    }

    private void output() {
        sentences.ofPromise(51, "Throws `IndexOutOfBoundsException` if the index is negative or not less than the"
                + " length of the line");
        for (int index : indicesBeyond(0)) {
            refused("of the empty line, index " + index, INDEX, Academies::unwritten,
                    academy -> academy.outputAt(index));
        }
        int length = Academies.busy().writeDoor(2);
        for (int index : indicesBeyond(length)) {
            refused("index " + index, INDEX,
                    () -> Academies.after(Academies.busy(), academy -> academy.writeDoor(2)),
                    academy -> academy.outputAt(index));
        }
        refused("behind a line that was longer", INDEX,
                () -> Academies.after(Academies.busy(), academy -> academy.writeExaminer(4),
                        academy -> academy.writeDoor(4)),
                academy -> academy.outputAt(2));
    }

    // ---- undo and snapshot

    private void undoAndRestore() {
        sentences.ofPromise(52, "Throws `IllegalStateException` if no call can be undone");
        refused("new object", STATE, Academies::empty, DoorAcademy::undo);
        refused("restored", STATE, () -> Academies.after(Academies.busy(), Academies::restored), DoorAcademy::undo);
        refused("all undone", STATE, () -> undone(Academies.busy(), 7), DoorAcademy::undo);
        refused("8 of more undone", STATE, () -> undone(Academies.crowded(), 8), DoorAcademy::undo);
        refused("refused calls alone", STATE, () -> {
            DoorAcademy academy = ran("award 0");
            Checks.outcome(() -> academy.setThreshold(21));
            return academy;
        }, DoorAcademy::undo);
        sentences.ofPromise(54, "Throws `IllegalStateException` if no state was saved");
        refused("new object", STATE, Academies::empty, Academies::restored);
        refused("calls to undo", STATE, Academies::unsaved, Academies::restored);
    }

    private static DoorAcademy undone(DoorAcademy academy, int calls) {
        for (int call = 0; call < calls; call++) {
            academy.undo();
        }
        return academy;
    }

    // ---- several conditions at once

    private void severalConditions() {
        sentences.ofTerms("If several conditions of a method apply, the exception that is listed first is thrown.");
        refused("addDoor: frame, 8 doors", ARGUMENT, Academies::crowded, academy -> academy.addDoor('g', 0));
        refused("addDoor: topic, 8 doors", ARGUMENT, Academies::crowded, academy -> academy.addDoor('a', 6));
        refused("addExaminer: frame, 6 of them", ARGUMENT, Academies::crowded,
                academy -> academy.addExaminer('g', 1, 1, 0));
        refused("addExaminer: topics, 6 of them", ARGUMENT, Academies::crowded,
                academy -> academy.addExaminer('a', 64, 1, 0));
        refused("addExaminer: capacity, 6 of them", ARGUMENT, Academies::crowded,
                academy -> academy.addExaminer('a', 1, 5, 0));
        refused("addExaminer: lenience, 6 of them", ARGUMENT, Academies::crowded,
                academy -> academy.addExaminer('a', 1, 1, 10));
        severalConditionsOfAssign();
        refusedWhenBusy("grade: examiner, grade", INDEX, academy -> academy.grade(5, 0, 21));
        refusedWhenBusy("grade: door, grade", INDEX, academy -> academy.grade(0, -1, -1));
        refusedWhenBusy("grade: grade, not assigned", ARGUMENT, academy -> academy.grade(4, 0, 21));
        refusedWhenBusy("grade: grade, given", ARGUMENT, academy -> academy.grade(0, 0, -1));
        severalConditionsOfAppealAndAward();
        refusedWhenBusy("panelMember: door, position", INDEX, academy -> academy.panelMember(5, 3));
        refusedWhenBusy("panelMember: door, position -1", INDEX, academy -> academy.panelMember(-1, -1));
        refusedWhenBusy("panelMember: position, no panel", ARGUMENT, academy -> academy.panelMember(2, 3));
        refusedWhenBusy("panelMember: position -1, no panel", ARGUMENT, academy -> academy.panelMember(2, -1));
        refusedRun("award 4;x", ARGUMENT, "errorPosition");
    }

    private void severalConditionsOfAssign() {
        refusedWhenBusy("assign: full door, conflict", STATE, academy -> academy.assign(4, 2));
        refused("assign: full door, frame", STATE,
                () -> Academies.after(Academies.busy(), academy -> academy.addExaminer('f', 63, 4, 0)),
                academy -> academy.assign(5, 2));
        refusedWhenBusy("assign: full load, topic", STATE, academy -> academy.assign(3, 4));
        refused("assign: full load, conflict", STATE,
                () -> Academies.after(Academies.busy(), academy -> academy.declareConflict(3, 0)),
                academy -> academy.assign(3, 0));
        refused("assign: full load, frame", STATE,
                () -> Academies.after(Academies.busy(), academy -> academy.addDoor('d', 0)),
                academy -> academy.assign(3, 5));
    }

    private void severalConditionsOfAppealAndAward() {
        refused("appeal: no result, no panel", STATE, () -> Academies.wide(1, "ab", "99"),
                academy -> academy.appeal(0));
        refusedWhenBusy("appeal: passes, no panel", STATE, academy -> academy.appeal(2));
        refused("appeal: has appealed, no panel", STATE,
                () -> Academies.after(Academies.busy(), academy -> academy.declareConflict(2, 1),
                        academy -> academy.declareConflict(3, 1)),
                academy -> academy.appeal(1));
        refused("award: entry, not entitled", STATE,
                () -> Academies.after(Academies.busy(), academy -> academy.setThreshold(20)),
                academy -> academy.award(0));
    }
}
