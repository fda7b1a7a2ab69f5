import java.util.NoSuchElementException;

/** The sentences of the promises that name a boundary case in which a call is not refused. */
final class PromiseBoundaries {

    private static final Class<IllegalArgumentException> ARGUMENT = IllegalArgumentException.class;
    private static final Class<IllegalStateException> STATE = IllegalStateException.class;
    private static final Class<IndexOutOfBoundsException> INDEX = IndexOutOfBoundsException.class;
    private static final Class<NoSuchElementException> MISSING = NoSuchElementException.class;

    private final Sentences sentences;

    PromiseBoundaries(Sentences sentences) {
        this.sentences = sentences;
    }

    void all() {
        newObject();
        addDoor();
        addExaminer();
        declareConflict();
        assignAndPlan();
        grade();
        setThreshold();
        appeal();
        counts();
        truths();
        doorAtRank();
        planSizes();
        panels();
        register();
        totals();
        append();
        run();
        storedNumbers();
        writeDoor();
        writeExaminer();
        outputAt();
        undo();
        saveAndRestore();
    }

    private void due(String what, Object got, Object want) {
        sentences.due(what, got, want);
    }

    private void refused(String what, Class<? extends RuntimeException> want, Checks.Call call) {
        sentences.refused(what, want, call);
    }

    // ---- a new object, doors and examiners

    private void newObject() {
        sentences.ofPromise(1, "Creates an academy without doors and examiners.");
        DoorAcademy academy = new DoorAcademy();
        due("doors", academy.doorCount(), 0);
        due("examiners", academy.examinerCount(), 0);
        due("entries", academy.entryCount(), 0);
        due("assignments", academy.assignments(), 0);
        due("assignments by doors", academy.assignmentsByDoors(), 0);
        due("grades", academy.gradeTotal(), 0L);
        due("plan", academy.planSize() + academy.planSizeBySets() + academy.carryOutPlan(), 0);
        due("consistent", academy.isConsistent(), true);
        refused("door 0", INDEX, () -> academy.topic(0));
        refused("examiner 0", INDEX, () -> academy.load(0));
        refused("rank 0", MISSING, () -> academy.doorAtRank(0));
        refused("entry 1", MISSING, () -> academy.doorOf(1));
        due("nothing is shared", Twins.afterCall(Academies::empty, academy2 -> Academies.crowded()),
                Twins.NO_DIFFERENCE);
    }

    private void addDoor() {
        sentences.ofPromise(2, "Adds a door without examiners.");
        DoorAcademy academy = Academies.wide(0, "abcdea", "000000");
        for (int door = 0; door < 8; door++) {
            due("index", academy.addDoor('f', 0), door);
            due("examiners", academy.examinersOf(door), 0);
            due("grades", academy.gradesOf(door), 0);
            academy.carryOutPlan();
        }
        DoorAcademy again = Academies.graded(Academies.wide(1, "ab", "00"), 0, 1, 2);
        for (int call = 0; call < 7; call++) {
            again.undo();
        }
        again.addDoor('f', 3);
        due("where a door was undone", Academies.line(again, again.writeDoor(0)), "f3");
        sentences.ofPromise(2, "- `frame`: the frame, 'a' to 'f'");
        for (char frame = 'a'; frame <= 'f'; frame++) {
            DoorAcademy one = new DoorAcademy();
            due("frame " + frame, one.addDoor(frame, 0), 0);
            due("frame " + frame + ", then", one.frameOfDoor(0), frame);
        }
        sentences.ofPromise(2, "- `topic`: the topic of its thesis, 0 to 5");
        for (int topic = 0; topic <= 5; topic++) {
            DoorAcademy one = new DoorAcademy();
            due("topic " + topic, one.addDoor('a', topic), 0);
            due("topic " + topic + ", then", one.topic(0), topic);
        }
    }

    private void addExaminer() {
        sentences.ofPromise(3, "- `frame`: the frame, 'a' to 'f'");
        for (char frame = 'a'; frame <= 'f'; frame++) {
            dueOfExaminer(frame, 1, 1, 0, frame + "0/1#0+0");
        }
        sentences.ofPromise(3, "- `topics`: the set of topics, 1 to 63");
        dueOfExaminer('a', 1, 1, 0, "a0/1#0+0");
        dueOfExaminer('a', 32, 1, 0, "a0/1#5+0");
        dueOfExaminer('a', 62, 1, 0, "a0/1#12345+0");
        dueOfExaminer('a', 63, 1, 0, "a0/1#012345+0");
        sentences.ofPromise(3, "- `capacity`: the capacity, 1 to 4");
        for (int capacity = 1; capacity <= 4; capacity++) {
            dueOfExaminer('a', 1, capacity, 0, "a0/" + capacity + "#0+0");
        }
        sentences.ofPromise(3, "- `lenience`: the lenience, 0 to 9");
        for (int lenience = 0; lenience <= 9; lenience++) {
            dueOfExaminer('a', 1, 1, lenience, "a0/1#0+" + lenience);
        }
    }

    private void dueOfExaminer(char frame, int topics, int capacity, int lenience, String line) {
        DoorAcademy academy = new DoorAcademy();
        due(line, academy.addExaminer(frame, topics, capacity, lenience), 0);
        due(line + ", then", Academies.line(academy, academy.writeExaminer(0)), line);
    }

    private void declareConflict() {
        sentences.ofPromise(4, "Returns the number of examiners that are neutral to the door after the call.");
        DoorAcademy academy = Academies.wide(8, "abcdef", "000000");
        int[] left = {4, 3, 2, 1, 0, 0};
        for (int examiner = 0; examiner < 6; examiner++) {
            due("examiner " + examiner + " and door 7", academy.declareConflict(examiner, 7), left[examiner]);
        }
        due("door 0 for itself", academy.declareConflict(0, 0), 4);
        DoorAcademy assigned = Academies.wide(1, "ab", "00");
        assigned.assign(0, 0);
        due("the assigned one is neutral too", assigned.declareConflict(1, 0), 1);
    }

    private void assignAndPlan() {
        sentences.ofPromise(5, "Returns the number of examiners of the door after the call.");
        DoorAcademy academy = Academies.wide(8, "abcdea", "000000");
        due("the last examiner to the last door", academy.assign(5, 7), 1);
        due("the first examiner", academy.assign(0, 7), 2);
        due("a third", academy.assign(3, 7), 3);
        due("the first door", academy.assign(0, 0), 1);
        sentences.ofPromise(6, "Returns the number of doors that get an examiner.");
        due("no doors", Academies.wide(0, "ab", "00").carryOutPlan(), 0);
        due("no examiners", Academies.wide(8, "", "").carryOutPlan(), 0);
        due("all but one", Academies.wide(8, "aff", "000").carryOutPlan(), 4);
        DoorAcademy full = Academies.wide(8, "abcdea", "000000");
        for (int round = 0; round < 4; round++) {
            due("round " + round, full.carryOutPlan(), round < 3 ? 8 : 0);
        }
        for (int door = 0; door < 8; door++) {
            due("each has 3", full.examinersOf(door), 3);
        }
    }

    private void grade() {
        sentences.ofPromise(7, "- `grade`: the grade, 0 to 20");
        for (int grade = 0; grade <= 20; grade++) {
            DoorAcademy academy = Academies.wide(1, "a", "0");
            academy.assign(0, 0);
            due("grade " + grade, academy.grade(0, 0, grade), 1);
            due("grade " + grade + ", then", academy.gradeBy(0, 0), grade);
        }
        sentences.ofPromise(7, "Returns the number of grades of the door after the call.");
        DoorAcademy academy = Academies.full();
        int[] given = new int[8];
        for (int examiner = 5; examiner >= 0; examiner--) {
            for (int door = 0; door < 8; door++) {
                if (academy.isAssigned(examiner, door)) {
                    given[door]++;
                    due("door " + door, academy.grade(examiner, door, 0), given[door]);
                }
            }
        }
    }

    private void setThreshold() {
        sentences.ofPromise(8, "- `threshold`: the new threshold, 0 to 20");
        for (int threshold = 0; threshold <= 20; threshold++) {
            DoorAcademy academy = new DoorAcademy();
            academy.setThreshold(threshold);
            due("threshold " + threshold, academy.threshold(), threshold);
        }
        sentences.ofPromise(8, "Returns the previous threshold.");
        DoorAcademy academy = new DoorAcademy();
        due("initial", academy.setThreshold(20), 10);
        due("greatest", academy.setThreshold(0), 20);
        due("least", academy.setThreshold(0), 0);
        refused("refused", ARGUMENT, () -> academy.setThreshold(21));
        due("not the refused one", academy.setThreshold(1), 0);
    }

    private void appeal() {
        sentences.ofPromise(9, "Lets the first panel decide on the appeal of a door.");
        DoorAcademy against = Academies.graded(Academies.wide(1, "abcdee", "009009"), 0, 1, 1);
        due("not a later panel in favour", against.appeal(0), 1);
        due("so not granted", against.wasGranted(0), false);
        DoorAcademy later = Academies.graded(Academies.wide(1, "abcdce", "000099"), 0, 1, 1);
        due("of the first two with one frame the lower", later.appeal(0), 1);
        sentences.ofPromise(9, "Returns the number of members in favour.");
        String[] leniences = {"00000", "00500", "00550", "00555", "00444", "00999"};
        int[] inFavour = {0, 1, 2, 3, 0, 3};
        for (int index = 0; index < leniences.length; index++) {
            DoorAcademy academy = Academies.graded(Academies.wide(1, "abcde", leniences[index]), 0, 5, 5);
            due(leniences[index], academy.appeal(0), inFavour[index]);
        }
    }

    // ---- queries

    private void counts() {
        sentences.ofPromise(12, "Returns the number, 0 to 8.");
        DoorAcademy academy = new DoorAcademy();
        for (int count = 0; count <= 8; count++) {
            due("doors", academy.doorCount(), count);
            Checks.outcome(() -> academy.addDoor('f', 0));
        }
        due("no ninth", academy.doorCount(), 8);
        sentences.ofPromise(22, "Returns the number, 0 to 6.");
        for (int count = 0; count <= 6; count++) {
            due("examiners", academy.examinerCount(), count);
            int index = count % 5;
            Checks.outcome(() -> academy.addExaminer((char) ('a' + index), 1, 4, 0));
        }
        due("no seventh", academy.examinerCount(), 6);
        countsOfADoor(academy);
        countsOfAnExaminer();
    }

    private void countsOfADoor(DoorAcademy academy) {
        sentences.ofPromise(15, "Returns the number, 0 to 3.");
        for (int count = 0; count <= 3; count++) {
            due("examiners of a door", academy.examinersOf(7), count);
            int examiner = count;
            Checks.outcome(() -> academy.assign(examiner, 7));
        }
        due("no fourth", academy.examinersOf(7), 3);
        due("none of another", academy.examinersOf(0), 0);
        sentences.ofPromise(16, "Returns the number, 0 to 3.");
        for (int count = 0; count <= 3; count++) {
            due("grades of a door", academy.gradesOf(7), count);
            int examiner = count;
            Checks.outcome(() -> academy.grade(examiner, 7, 0));
        }
        due("no fourth", academy.gradesOf(7), 3);
        due("none of another", academy.gradesOf(0), 0);
    }

    private void countsOfAnExaminer() {
        sentences.ofPromise(24, "Returns the number of doors, 0 to 4.");
        DoorAcademy academy = Academies.wide(8, "abcdea", "000000");
        for (int count = 0; count <= 4; count++) {
            due("load", academy.load(5), count);
            int door = 7 - count;
            Checks.outcome(() -> academy.assign(5, door));
        }
        due("no fifth", academy.load(5), 4);
        due("none of another", academy.load(0), 0);
    }

    private void truths() {
        DoorAcademy academy = Academies.busy();
        sentences.ofPromise(18, "Returns true if it has a result that is not less than the threshold.");
        due("more", academy.passes(0), true);
        due("just so", academy.passes(2), true);
        due("less", academy.passes(1), false);
        due("no result", academy.passes(3), false);
        academy.setThreshold(0);
        due("no result at threshold 0", academy.passes(3), false);
        academy.undo();
        sentences.ofPromise(19, "Returns true if it has appealed and at least 2 members were in favour.");
        due("in vain", academy.wasGranted(1), false);
        due("not appealed", academy.wasGranted(0), false);
        for (int inFavour = 0; inFavour <= 3; inFavour++) {
            String leniences = "00" + "999".substring(3 - inFavour) + "000".substring(inFavour);
            DoorAcademy other = Academies.graded(Academies.wide(1, "abcde", leniences), 0, 1, 1);
            other.appeal(0);
            due(inFavour + " in favour", other.wasGranted(0), inFavour >= 2);
        }
        sentences.ofPromise(20, "Returns true if it passes or its appeal was granted.");
        due("passes", academy.isEntitled(0), true);
        due("passes just so", academy.isEntitled(2), true);
        due("in vain", academy.isEntitled(1), false);
        due("no result", academy.isEntitled(4), false);
        truthsOfPairs(academy);
    }

    private void truthsOfPairs(DoorAcademy academy) {
        sentences.ofPromise(25, "Returns true if the examiner is neutral to it.");
        due("neutral", academy.isNeutral(4, 4), true);
        due("conflict", academy.isNeutral(4, 2), false);
        due("same frame", academy.isNeutral(0, 3), false);
        due("other topic", academy.isNeutral(3, 4), true);
        sentences.ofPromise(26, "Returns true if the examiner may judge it.");
        due("may", academy.mayJudge(4, 4), true);
        due("with full load", academy.mayJudge(3, 0), true);
        due("other topic", academy.mayJudge(3, 4), false);
        due("conflict", academy.mayJudge(4, 2), false);
        due("same frame", academy.mayJudge(0, 3), false);
        sentences.ofPromise(27, "Returns true if the examiner is assigned to it.");
        due("with a grade", academy.isAssigned(0, 0), true);
        due("without a grade", academy.isAssigned(2, 2), true);
        due("another door", academy.isAssigned(2, 1), false);
        due("another examiner", academy.isAssigned(3, 2), false);
    }

    private void doorAtRank() {
        sentences.ofPromise(21, "Doors with a result come first, ranked by result in descending order, then by the"
                + " number of grades in descending order, then by index in ascending order; the doors without a"
                + " result follow by index in ascending order.");
        DoorAcademy academy = Academies.wide(8, "abcde", "00000");
        academy.assign(4, 0);
        academy.grade(4, 0, 20);
        rankTwo(academy, 1, 0, 1, 0);
        rankTwo(academy, 2, 2, 3, 20);
        rankTwo(academy, 4, 0, 1, 0);
        academy.assign(4, 4);
        academy.grade(4, 4, 0);
        rankTwo(academy, 5, 2, 3, 20);
        rankTwo(academy, 7, 0, 1, 1);
        int[] order = {2, 5, 7, 4, 1, 0, 3, 6};
        for (int rank = 0; rank < 8; rank++) {
            due("rank " + rank, academy.doorAtRank(rank), order[rank]);
        }
        sentences.ofPromise(21, "- `rank`: the rank, from 0");
        due("one door", Academies.wide(1, "", "").doorAtRank(0), 0);
        refused("no door", MISSING, () -> new DoorAcademy().doorAtRank(0));
        for (int rank = 0; rank < 8; rank++) {
            due("no results, rank " + rank, Academies.wide(8, "", "").doorAtRank(rank), rank);
        }
    }

    /** The examiners give the grade each. */
    private static void rankTwo(DoorAcademy academy, int door, int one, int other, int grade) {
        academy.assign(one, door);
        academy.assign(other, door);
        academy.grade(one, door, grade);
        academy.grade(other, door, grade);
    }

    private void planSizes() {
        sentences.ofPromise(29, "Returns the number of doors to which a greatest plan gives examiners, found by"
                + " improving a plan along chains of exchanges until no door can be added.");
        for (int doors = 0; doors <= 8; doors++) {
            due("one examiner, " + doors + " doors", Academies.wide(doors, "a", "0").planSize(), Math.min(4, doors));
            due("6 examiners, " + doors + " doors", Academies.wide(doors, "abcdea", "000000").planSize(), doors);
            due("no examiner, " + doors + " doors", Academies.wide(doors, "", "").planSize(), 0);
        }
        due("full", Academies.full().planSize(), 0);
        sentences.ofPromise(30, "Returns the same number, found by collecting, examiner by examiner, all sets of"
                + " doors that can be given to the examiners so far.");
        for (int doors = 0; doors <= 8; doors++) {
            due("one examiner, " + doors + " doors", Academies.wide(doors, "a", "0").planSizeBySets(),
                    Math.min(4, doors));
            due("6 examiners, " + doors + " doors", Academies.wide(doors, "abcdea", "000000").planSizeBySets(), doors);
            due("no examiner, " + doors + " doors", Academies.wide(doors, "", "").planSizeBySets(), 0);
        }
        due("full", Academies.full().planSizeBySets(), 0);
    }

    private void panels() {
        String[] frames = {"", "ab", "abc", "abcd", "abcde", "abcdea", "aabbcc", "aaabbb", "fffabc", "ffffff"};
        int[] counts = {0, 0, 1, 4, 10, 16, 8, 0, 1, 0};
        sentences.ofPromise(32, "Returns the number of panels for a door, whether it can appeal or not, found by"
                + " trying all sets of 3 examiners.");
        for (int index = 0; index < frames.length; index++) {
            due(frames[index], Academies.wide(1, frames[index], "000000").panelCount(0), counts[index]);
        }
        due("it has appealed", Academies.busy().panelCount(1), 1);
        due("it passes", Academies.busy().panelCount(0), 1);
        sentences.ofPromise(33, "Returns the same number, computed as a sum of products of the numbers of suitable"
                + " examiners with each frame.");
        for (int index = 0; index < frames.length; index++) {
            due(frames[index], Academies.wide(1, frames[index], "000000").panelCountByFrames(0), counts[index]);
        }
        due("it has appealed", Academies.busy().panelCountByFrames(1), 1);
        due("it passes", Academies.busy().panelCountByFrames(0), 1);
        sentences.ofPromise(34, "Returns a member of the first panel for a door, whether it can appeal or not.");
        due("no result", firstPanel(Academies.wide(1, "abcdea", "000000")), "012");
        due("it has appealed", firstPanel(Academies.graded(Academies.wide(1, "abcdea", "000000"), 0, 0, 0)), "234");
        due("it passes", firstPanel(Academies.graded(Academies.wide(1, "abcade", "000000"), 0, 20, 20)), "234");
        sentences.ofPromise(34, "- `position`: the position in ascending order, 0 to 2");
        DoorAcademy academy = Academies.wide(1, "fffabc", "000000");
        for (int position = 0; position <= 2; position++) {
            due("position " + position, academy.panelMember(0, position), position + 3);
            due("it has appealed, position " + position, Academies.busy().panelMember(1, position), position + 2);
        }
    }

    private static String firstPanel(DoorAcademy academy) {
        Checks.outcome(() -> academy.appeal(0));
        return "" + academy.panelMember(0, 0) + academy.panelMember(0, 1) + academy.panelMember(0, 2);
    }

    private void register() {
        sentences.ofPromise(36, "Returns the number, 0 to 8.");
        DoorAcademy academy = Academies.fullOfGrades(20);
        for (int count = 0; count < 8; count++) {
            due("entries", academy.entryCount(), count);
            academy.award(count);
        }
        due("full", academy.entryCount(), 8);
        academy.revoke(8);
        due("revoked", academy.entryCount(), 8);
        sentences.ofPromise(38, "Returns true if it is revoked.");
        for (int entry = 1; entry <= 8; entry++) {
            due("entry " + entry, academy.isRevoked(entry), entry == 8);
        }
        academy.revoke(1);
        for (int entry = 1; entry <= 8; entry++) {
            due("then entry " + entry, academy.isRevoked(entry), entry == 8 || entry == 1);
        }
    }

    private void totals() {
        sentences.ofPromise(39, "Returns the number of assignments, added as the loads of all examiners.");
        due("none", Academies.wide(8, "abcdea", "000000").assignments(), 0);
        due("as many as there can be", Academies.full().assignments(), 24);
        sentences.ofPromise(40, "Returns the same number, added as the numbers of examiners of all doors.");
        due("none", Academies.wide(8, "abcdea", "000000").assignmentsByDoors(), 0);
        due("as many as there can be", Academies.full().assignmentsByDoors(), 24);
        sentences.ofPromise(41, "Returns the sum of all grades.");
        due("none", Academies.full().gradeTotal(), 0L);
        due("zeros", Academies.fullOfGrades(0).gradeTotal(), 0L);
        due("greatest", Academies.fullOfGrades(20).gradeTotal(), 480L);
        sentences.ofPromise(42, "Returns the sum of all grades divided by their number, both converted to double.");
        due("zeros", Academies.fullOfGrades(0).meanGrade(), 0.0);
        due("greatest", Academies.fullOfGrades(20).meanGrade(), 20.0);
        DoorAcademy uneven = Academies.wide(2, "ab", "00");
        uneven.assign(0, 0);
        uneven.grade(0, 0, 7);
        due("one", uneven.meanGrade(), 7.0);
        Academies.graded(uneven, 1, 0, 1);
        due("not rounded", uneven.meanGrade(), 8.0 / 3.0);
        sentences.ofPromise(43, "Returns the number of doors that pass divided by the number of doors with a result,"
                + " both converted to float.");
        due("all", Academies.fullOfGrades(10).passShare(), 1.0f);
        due("none", Academies.fullOfGrades(9).passShare(), 0.0f);
        DoorAcademy third = Academies.wide(4, "ab", "00");
        Academies.graded(third, 0, 10, 10);
        Academies.graded(third, 1, 10, 9);
        Academies.graded(third, 3, 0, 0);
        due("a third, not rounded", third.passShare(), 1.0f / 3.0f);
        sentences.ofPromise(44, "Returns true if all invariants hold.");
        for (Twins.Setup setup : new Twins.Setup[] {Academies::empty, Academies::busy, Academies::crowded,
            Academies::full, Academies::decorated, Academies::ready}) {
            due("all hold", setup.make().isConsistent(), true);
        }
    }

    // ---- programs

    private void append() {
        sentences.ofPromise(45, "- `character`: any character");
        for (char character : new char[] {'\0', '\t', '\n', ' ', '0', ';', 'a', '~', (char) 127, (char) 128, (char) 233,
            (char) 255, (char) 256, (char) 0x7fff, (char) 0x8000, '\ud800', '\uffff'}) {
            DoorAcademy academy = new DoorAcademy();
            due("character " + (int) character, academy.append(character), 1);
            refused("run with character " + (int) character, ARGUMENT, academy::run);
            due("its error position", academy.errorPosition(), character == 'a' ? 1 : 0);
        }
        sentences.ofPromise(45, "Returns the number of characters in the buffer after the call.");
        DoorAcademy academy = new DoorAcademy();
        for (int length = 1; length <= 60; length++) {
            due("length", academy.append('p'), length);
        }
        refused("61", STATE, () -> academy.append('p'));
    }

    private void run() {
        sentences.ofPromise(46, "The commands are carried out in order.");
        due("door before examiner before assignment",
                Academies.run(new DoorAcademy(), "door a 0;examiner b 1 1 0;assign 0 0;grade 0 0 20"), 4);
        due("not the other way round", Academies.run(new DoorAcademy(), "assign 0 0;door a 0;examiner b 1 1 0"),
                "throws UnsupportedOperationException");
        DoorAcademy thresholds = new DoorAcademy();
        Academies.run(thresholds, "threshold 1;threshold 2;threshold 3");
        due("the last one counts", thresholds.threshold(), 3);
        sentences.ofPromise(46, "If one of them fails, none of them has an effect.");
        String[] failing = {"award 9;threshold 3;plan", "threshold 3;award 9;plan", "threshold 3;plan;award 9"};
        for (String text : failing) {
            Twins.On typeAndRun = academy -> Academies.run(academy, text);
            due(text, Twins.afterCall(Academies::typeless, typeAndRun, "failedCommand"), Twins.NO_DIFFERENCE);
        }
        due("a full academy of doors", Twins.afterCall(Academies::typeless, academy -> Academies.run(academy,
                "door a 0;door b 0;door c 0;door d 0"), "failedCommand"), Twins.NO_DIFFERENCE);
        sentences.ofPromise(46, "The buffer is empty afterwards in every case.");
        String[] texts = {"", "plan", "award 9", "x", "plan;", "p".repeat(60), "plan;".repeat(11) + "plan"};
        for (String text : texts) {
            DoorAcademy academy = new DoorAcademy();
            Academies.run(academy, text);
            due("after " + text, academy.append('p'), 1);
            due("then", Academies.run(academy, "lan"), 1);
        }
        sentences.ofPromise(46, "Returns the number of commands.");
        for (int commands = 1; commands <= 12; commands++) {
            due("commands", Academies.run(new DoorAcademy(), "plan;".repeat(commands - 1) + "plan"), commands);
        }
    }

    private void storedNumbers() {
        sentences.ofPromise(47, "Returns the error position that was stored last.");
        DoorAcademy academy = new DoorAcademy();
        int[] lengths = {0, 60, 1, 58, 0};
        for (int length : lengths) {
            Academies.run(academy, "plan;".repeat(12).substring(0, length));
            due("position " + length, academy.errorPosition(), length);
            Academies.run(academy, "plan");
            due("after a success", academy.errorPosition(), length);
            Academies.run(academy, "award 0");
            due("after a failure", academy.errorPosition(), length);
        }
        sentences.ofPromise(48, "Returns the failed command that was stored last.");
        for (int command : new int[] {0, 10, 1, 0}) {
            Academies.run(academy, "plan;".repeat(command) + "award 0");
            due("command " + command, academy.failedCommand(), command);
            Academies.run(academy, "plan");
            due("after a success", academy.failedCommand(), command);
            Academies.run(academy, "x");
            due("after an error", academy.failedCommand(), command);
        }
    }

    // ---- output

    private void writeDoor() {
        sentences.ofPromise(49, "Writes a door to the output line, replacing its content: the frame, the topic, and"
                + " for each of its examiners, in ascending order, a blank and the index, with \":\" and the grade if"
                + " there is one; then \"=\" and the result if it has one, and \"*\" if it has a degree that is not"
                + " revoked; for example \"c4 0:12 3:9 5=10*\".");
        DoorAcademy academy = new DoorAcademy();
        academy.addDoor('f', 5);
        for (int examiner = 0; examiner < 6; examiner++) {
            academy.addExaminer("abcdea".charAt(examiner), 63, 4, 0);
        }
        dueLine("shortest", academy, "f5");
        academy.assign(5, 0);
        dueLine("without a grade", academy, "f5 5");
        academy.grade(5, 0, 0);
        dueLine("one grade, the least", academy, "f5 5:0");
        academy.assign(0, 0);
        academy.assign(3, 0);
        dueLine("in ascending order", academy, "f5 0 3 5:0");
        academy.grade(3, 0, 9);
        dueLine("a result of one digit", academy, "f5 0 3:9 5:0=4");
        academy.setThreshold(4);
        academy.award(0);
        dueLine("a degree", academy, "f5 0 3:9 5:0=4*");
        academy.revoke(1);
        dueLine("revoked", academy, "f5 0 3:9 5:0=4");
        academy.undo();
        dueLine("not revoked any more", academy, "f5 0 3:9 5:0=4*");
        academy.setThreshold(20);
        dueLine("a degree without passing", academy, "f5 0 3:9 5:0=4*");
        dueLine("longest", longest(), "f0 0:20 2:20 4:20=20*");
        for (int grade = 0; grade <= 20; grade++) {
            DoorAcademy both = Academies.graded(Academies.wide(1, "ab", "00"), 0, grade, grade);
            String degree = grade >= 10 ? "*" : "";
            Checks.outcome(() -> both.award(0));
            dueLine("grades " + grade, both, "f0 0:" + grade + " 1:" + grade + "=" + grade + degree);
        }
        DoorAcademy ten = Academies.graded(Academies.wide(1, "ab", "00"), 0, 10, 9);
        dueLine("9 and 10", ten, "f0 0:10 1:9=9");
    }

    private static DoorAcademy longest() {
        DoorAcademy academy = Academies.fullOfGrades(20);
        academy.award(0);
        return academy;
    }

    private void dueLine(String what, DoorAcademy academy, String want) {
        int length = academy.writeDoor(0);
        due(what, Academies.line(academy, length), want);
        refused(what + ", behind it", INDEX, () -> academy.outputAt(length));
    }

    private void writeExaminer() {
        sentences.ofPromise(50, "Writes an examiner to the output line, replacing its content: the frame, the load,"
                + " \"/\", the capacity, \"#\", the topics of the set in ascending order, \"+\" and the lenience; for"
                + " example \"b2/3#035+4\".");
        DoorAcademy academy = Academies.wide(4, "", "");
        academy.addExaminer('a', 63, 4, 9);
        academy.addExaminer('b', 32, 1, 0);
        due("none of 4", Academies.line(academy, academy.writeExaminer(0)), "a0/4#012345+9");
        for (int door = 0; door < 4; door++) {
            academy.assign(0, door);
        }
        due("full, longest", Academies.line(academy, academy.writeExaminer(0)), "a4/4#012345+9");
        due("shortest", Academies.line(academy, academy.writeExaminer(1)), "b0/1#5+0");
        refused("behind the shorter line", INDEX, () -> academy.outputAt(8));
        academy.writeDoor(0);
        due("replaces a door", Academies.line(academy, academy.writeExaminer(1)), "b0/1#5+0");
    }

    private void outputAt() {
        sentences.ofPromise(51, "Returns a character of the output line, which is initially empty.");
        refused("initially", INDEX, () -> new DoorAcademy().outputAt(0));
        refused("not yet written", INDEX, () -> Academies.wide(3, "ab", "00").outputAt(0));
        sentences.ofPromise(51, "- `index`: the index, from 0");
        DoorAcademy academy = longest();
        int length = academy.writeDoor(0);
        due("length", length, 21);
        due("first", academy.outputAt(0), 'f');
        due("last", academy.outputAt(20), '*');
        refused("behind the last", INDEX, () -> academy.outputAt(21));
        refused("before the first", INDEX, () -> academy.outputAt(-1));
    }

    // ---- undo and snapshot

    private void undo() {
        sentences.ofPromise(52, "Undoes the most recent changing call that has not been undone.");
        DoorAcademy academy = new DoorAcademy();
        academy.setThreshold(1);
        academy.setThreshold(2);
        academy.undo();
        academy.setThreshold(3);
        academy.undo();
        due("back over an undone call", academy.threshold(), 1);
        academy.undo();
        due("to the beginning", academy.threshold(), 10);
        sentences.ofPromise(52, "Returns the number of calls that can still be undone.");
        for (int calls = 1; calls <= 20; calls++) {
            DoorAcademy other = new DoorAcademy();
            for (int call = 0; call < calls; call++) {
                other.carryOutPlan();
            }
            due("after " + calls, other.undo(), Math.min(calls, 8) - 1);
        }
    }

    private void saveAndRestore() {
        sentences.ofPromise(53, "Saves the state, replacing a previously saved state.");
        DoorAcademy academy = new DoorAcademy();
        for (int threshold = 0; threshold <= 20; threshold++) {
            academy.setThreshold(threshold);
            academy.save();
            academy.setThreshold(20 - threshold);
            academy.restore();
            due("threshold", academy.threshold(), threshold);
        }
        DoorAcademy fresh = new DoorAcademy();
        fresh.save();
        fresh.addDoor('a', 0);
        fresh.restore();
        due("the state of a new object", fresh.doorCount(), 0);
        DoorAcademy crowded = Academies.decorated();
        crowded.save();
        Twins.Setup restored = () -> {
            DoorAcademy made = Academies.decorated();
            made.save();
            made.restore();
            return made;
        };
        due("the state of a full one", Twins.afterCall(restored, made -> {
            Academies.run(made, "threshold 3;revoke 1;revoke 8;plan");
            return Academies.restored(made);
        }), Twins.NO_DIFFERENCE);
        savingIsNoChange();
        restoreStays();
    }

    private void savingIsNoChange() {
        sentences.ofPromise(53, "Saving is not a changing call.");
        DoorAcademy academy = new DoorAcademy();
        academy.save();
        refused("nothing to undo", STATE, academy::undo);
        for (int call = 1; call <= 8; call++) {
            academy.setThreshold(call);
            academy.save();
        }
        for (int left = 7; left >= 0; left--) {
            due("takes no place", academy.undo(), left);
            due("undone", academy.threshold(), left == 0 ? 10 : left);
        }
        academy.restore();
        due("undo leaves the saved state", academy.threshold(), 8);
    }

    private void restoreStays() {
        sentences.ofPromise(54, "Restores the saved state, which stays saved.");
        DoorAcademy academy = Academies.ready();
        academy.save();
        Twins.Setup once = () -> restoredTimes(1);
        Twins.On again = Academies::restored;
        due("twice", Twins.afterCall(once, again), Twins.NO_DIFFERENCE);
        due("over other doors and examiners",
                Twins.between(PromiseBoundaries::restoredOverOthers, PromiseBoundaries::restoredAtOnce),
                Twins.NO_DIFFERENCE);
        for (int times = 0; times < 3; times++) {
            academy.setThreshold(times);
            academy.addDoor('c', 3);
            academy.revoke(1);
            academy.grade(2, 2, 1);
            academy.restore();
            due("threshold", academy.threshold(), 10);
            due("doors", academy.doorCount(), 4);
            due("revocations", academy.isRevoked(1), false);
            due("grades", academy.gradesOf(2), 2);
        }
        restoreOfAppealsAndDegrees();
        restoreOfRows();
        sentences.ofPromise(54, "Afterwards no call can be undone.");
        for (int calls = 0; calls <= 20; calls++) {
            DoorAcademy other = new DoorAcademy();
            other.save();
            for (int call = 0; call < calls; call++) {
                other.carryOutPlan();
            }
            other.restore();
            refused("after " + calls, STATE, other::undo);
            other.setThreshold(3);
            due("calls after it can", other.undo(), 0);
            due("and are", other.threshold(), 10);
            refused("no more", STATE, other::undo);
        }
    }

    private void restoreOfAppealsAndDegrees() {
        DoorAcademy academy = Academies.ready();
        academy.appeal(1);
        academy.award(1);
        academy.revoke(1);
        academy.setThreshold(14);
        academy.save();
        for (int call = 0; call < 4; call++) {
            academy.undo();
        }
        academy.award(2);
        academy.restore();
        due("granted", academy.wasGranted(1), true);
        refused("appealed", STATE, () -> academy.appeal(1));
        due("entries", academy.entryCount(), 2);
        due("door of the second", academy.doorOf(2), 1);
        due("revoked", academy.isRevoked(1), true);
        due("not revoked", academy.isRevoked(2), false);
        due("threshold at that time", academy.threshold(), 14);
    }

    private void restoreOfRows() {
        DoorAcademy academy = restoredOverOthers();
        due("doors and examiners", academy.doorCount() + 10 * academy.examinerCount(), 21);
        due("door", Academies.line(academy, academy.writeDoor(0)), "a1 0:12 1:14=13*");
        due("first examiner", Academies.line(academy, academy.writeExaminer(0)), "c1/2#12+7");
        due("second examiner", Academies.line(academy, academy.writeExaminer(1)), "d1/3#01+2");
        due("no conflict", academy.isNeutral(1, 0), true);
        due("entry", academy.doorOf(1), 0);
        due("not revoked any more", academy.isRevoked(1), false);
    }

    /** 8 calls that fill every row of the state, and are saved. */
    private static DoorAcademy savedWithEntry() {
        DoorAcademy academy = new DoorAcademy();
        academy.addDoor('a', 1);
        academy.addExaminer('c', 6, 2, 7);
        academy.addExaminer('d', 3, 3, 2);
        Academies.graded(academy, 0, 12, 14);
        academy.award(0);
        academy.save();
        return academy;
    }

    private static DoorAcademy restoredAtOnce() {
        DoorAcademy academy = savedWithEntry();
        academy.restore();
        return academy;
    }

    private static DoorAcademy restoredOverOthers() {
        DoorAcademy academy = savedWithEntry();
        for (int call = 0; call < 8; call++) {
            academy.undo();
        }
        academy.addDoor('f', 4);
        academy.addDoor('e', 5);
        academy.addExaminer('a', 63, 4, 9);
        academy.addExaminer('b', 48, 4, 0);
        academy.declareConflict(1, 0);
        Academies.graded(academy, 1, 20, 20);
        academy.award(1);
        academy.revoke(1);
        academy.restore();
        return academy;
    }

    private static DoorAcademy restoredTimes(int times) {
        DoorAcademy academy = Academies.crowded();
        for (int time = 0; time < times; time++) {
            academy.restore();
        }
        return academy;
    }
}
