import java.util.ArrayList;
import java.util.List;

/**
 * Compares two academies that were made alike, one of which was given one call more, by all that
 * later calls show of them. As such calls change what others would show, each kind of look has a pair
 * of academies of its own.
 */
final class Twins {

    static final String NO_DIFFERENCE = "no difference";
    /** No row begins with it. */
    private static final String IGNORE_NONE = "-";
    /** Less than the 512 that the document allows, as the setups and calls before make some too. */
    private static final int MOST_CALLS_OF_A_LOOK = 320;

    interface Setup {
        DoorAcademy make();
    }

    interface On {
        Object answer(DoorAcademy academy);
    }

    private enum Look {
        DOORS, PAIRS, LINES, TEXT, FULL_TEXT, APPEALS, GRADES, CONFLICTS, GROWTH, UNDO, RESTORE
    }

    private final DoorAcademy academy;
    private final List<String> seen = new ArrayList<>();
    private int calls = 0;

    private Twins(DoorAcademy academy) {
        this.academy = academy;
    }

    /** The first difference that one call more makes. */
    static String afterCall(Setup setup, On call) {
        return afterCall(setup, call, IGNORE_NONE);
    }

    /** As above, where the answers of a query, such as errorPosition, do not count. */
    static String afterCall(Setup setup, On call, String ignored) {
        Setup called = () -> {
            DoorAcademy academy = setup.make();
            call.answer(academy);
            return academy;
        };
        return between(called, setup, ignored);
    }

    static String between(Setup one, Setup other) {
        return between(one, other, IGNORE_NONE);
    }

    private static String between(Setup one, Setup other, String ignored) {
        for (Look look : Look.values()) {
            List<String> got = seenOf(one.make(), look);
            List<String> want = seenOf(other.make(), look);
            for (int row = 0; row < Math.max(got.size(), want.size()); row++) {
                String gotRow = row < got.size() ? got.get(row) : "nothing";
                String wantRow = row < want.size() ? want.get(row) : "nothing";
                boolean counts = !gotRow.startsWith(ignored) || !wantRow.startsWith(ignored);
                if (counts && !gotRow.equals(wantRow)) {
                    return look + ": " + gotRow + " instead of " + wantRow;
                }
            }
        }
        return NO_DIFFERENCE;
    }

    private static List<String> seenOf(DoorAcademy academy, Look look) {
        Twins twin = new Twins(academy);
        twin.look(look);
        if (twin.calls > MOST_CALLS_OF_A_LOOK) {
            throw new IllegalStateException(look + " takes " + twin.calls + " calls");
        }
        return twin.seen;
    }

    private void look(Look look) {
        switch (look) {
            case DOORS -> lookAtDoorsAndTotals();
            case PAIRS -> lookAtPairs();
            case LINES -> lookAtLines();
            case TEXT -> lookAtText();
            case FULL_TEXT -> lookAtFullText();
            case APPEALS -> lookAtAppeals();
            case GRADES -> lookAtGrades();
            case CONFLICTS -> lookAtConflicts();
            case GROWTH -> lookAtGrowth();
            case UNDO -> lookAtUndo();
            default -> lookAtRestored();
        }
    }

    private Object see(String what, Checks.Call call) {
        calls++;
        Object outcome = Checks.outcome(call);
        seen.add(what + " -> " + outcome);
        return outcome;
    }

    private int doors() {
        calls++;
        return academy.doorCount();
    }

    private int examiners() {
        calls++;
        return academy.examinerCount();
    }

    private void lookAtDoorsAndTotals() {
        int doors = doors();
        for (int index = 0; index <= doors; index++) {
            int door = index;
            see("frameOfDoor " + door, () -> academy.frameOfDoor(door));
            see("topic " + door, () -> academy.topic(door));
            see("examinersOf " + door, () -> academy.examinersOf(door));
            see("gradesOf " + door, () -> academy.gradesOf(door));
            see("result " + door, () -> academy.result(door));
            see("passes " + door, () -> academy.passes(door));
            see("wasGranted " + door, () -> academy.wasGranted(door));
            see("isEntitled " + door, () -> academy.isEntitled(door));
            see("doorAtRank " + door, () -> academy.doorAtRank(door));
            see("plannedExaminer " + door, () -> academy.plannedExaminer(door));
            see("panelCount " + door, () -> academy.panelCount(door));
            see("panelCountByFrames " + door, () -> academy.panelCountByFrames(door));
            for (int index2 = 0; index2 < 3; index2++) {
                int position = index2;
                see("panelMember " + door + " " + position, () -> academy.panelMember(door, position));
            }
            see("doorOf " + (door + 1), () -> academy.doorOf(door + 1));
            see("isRevoked " + (door + 1), () -> academy.isRevoked(door + 1));
        }
        lookAtTotals();
    }

    private void lookAtTotals() {
        see("doorCount", academy::doorCount);
        see("examinerCount", academy::examinerCount);
        see("planSize", academy::planSize);
        see("planSizeBySets", academy::planSizeBySets);
        see("threshold", academy::threshold);
        see("entryCount", academy::entryCount);
        see("assignments", academy::assignments);
        see("assignmentsByDoors", academy::assignmentsByDoors);
        see("gradeTotal", academy::gradeTotal);
        see("meanGrade", academy::meanGrade);
        see("passShare", academy::passShare);
        see("isConsistent", academy::isConsistent);
    }

    private void lookAtPairs() {
        int doors = doors();
        int examiners = examiners();
        for (int index = 0; index <= examiners; index++) {
            int examiner = index;
            see("frameOfExaminer " + examiner, () -> academy.frameOfExaminer(examiner));
            see("load " + examiner, () -> academy.load(examiner));
            for (int index2 = 0; index2 <= doors; index2++) {
                int door = index2;
                String pair = examiner + " " + door;
                see("isNeutral " + pair, () -> academy.isNeutral(examiner, door));
                see("mayJudge " + pair, () -> academy.mayJudge(examiner, door));
                see("isAssigned " + pair, () -> academy.isAssigned(examiner, door));
                see("gradeBy " + pair, () -> academy.gradeBy(examiner, door));
            }
        }
    }

    private void lookAtLines() {
        see("errorPosition", academy::errorPosition);
        see("failedCommand", academy::failedCommand);
        seeLine(22);
        int doors = doors();
        for (int index = 0; index < doors; index++) {
            int door = index;
            if (see("writeDoor " + door, () -> academy.writeDoor(door)) instanceof Integer length) {
                seeLine(length);
            }
        }
        int examiners = examiners();
        for (int index = 0; index < examiners; index++) {
            int examiner = index;
            if (see("writeExaminer " + examiner, () -> academy.writeExaminer(examiner)) instanceof Integer length) {
                seeLine(length);
            }
        }
    }

    private void seeLine(int length) {
        for (int index = 0; index <= length; index++) {
            int place = index;
            see("outputAt " + place, () -> academy.outputAt(place));
        }
    }

    /** A buffer with "pla" becomes a program by this. */
    private void lookAtText() {
        see("append", () -> academy.append('n'));
        see("run", academy::run);
        see("errorPosition", academy::errorPosition);
        see("failedCommand", academy::failedCommand);
        lookAtTotals();
        for (char character : "award 0;award 1".toCharArray()) {
            see("append", () -> academy.append(character));
        }
        see("run", academy::run);
        see("errorPosition", academy::errorPosition);
        see("failedCommand", academy::failedCommand);
        see("undo", academy::undo);
    }

    private void lookAtFullText() {
        for (int index = 0; index <= 60; index++) {
            int place = index;
            see("append", () -> academy.append("plan;".charAt(place % 5)));
        }
        see("run", academy::run);
        see("errorPosition", academy::errorPosition);
        see("append", () -> academy.append('p'));
    }

    private void lookAtAppeals() {
        int doors = doors();
        see("setThreshold", () -> academy.setThreshold(11));
        for (int index = 0; index <= doors; index++) {
            int door = index;
            see("appeal " + door, () -> academy.appeal(door));
            see("wasGranted " + door, () -> academy.wasGranted(door));
            see("award " + door, () -> academy.award(door));
            see("revoke " + (door + 1), () -> academy.revoke(door + 1));
        }
        lookAtTotals();
    }

    private void lookAtGrades() {
        int doors = doors();
        int examiners = examiners();
        for (int index = 0; index < examiners; index++) {
            int examiner = index;
            for (int index2 = 0; index2 < doors; index2++) {
                int door = index2;
                see("assign " + examiner + " " + door, () -> academy.assign(examiner, door));
                see("grade " + examiner + " " + door, () -> academy.grade(examiner, door, 3 * examiner + door));
            }
        }
        for (int index = 0; index < doors; index++) {
            int door = index;
            see("result " + door, () -> academy.result(door));
        }
    }

    private void lookAtConflicts() {
        int doors = doors();
        int examiners = examiners();
        for (int index = 0; index < examiners; index++) {
            int examiner = index;
            for (int index2 = 0; index2 < doors; index2++) {
                int door = index2;
                see("declareConflict " + examiner + " " + door, () -> academy.declareConflict(examiner, door));
            }
        }
    }

    private void lookAtGrowth() {
        for (int times = 0; times < 9; times++) {
            see("addDoor", () -> academy.addDoor('d', 1));
        }
        for (int times = 0; times < 7; times++) {
            see("addExaminer", () -> academy.addExaminer('c', 63, 4, 6));
        }
        for (int times = 0; times < 4; times++) {
            see("carryOutPlan", academy::carryOutPlan);
            lookAtTotals();
        }
    }

    private void lookAtUndo() {
        for (int times = 0; times <= 9; times++) {
            see("undo", academy::undo);
            lookBriefly();
        }
    }

    private void lookAtRestored() {
        see("restore", () -> Academies.restored(academy));
        see("undo", academy::undo);
        lookAtDoorsAndTotals();
        int doors = doors();
        int examiners = examiners();
        for (int index = 0; index < examiners; index++) {
            int examiner = index;
            for (int index2 = 0; index2 < doors; index2++) {
                int door = index2;
                see("gradeBy " + examiner + " " + door, () -> academy.gradeBy(examiner, door));
                see("isNeutral " + examiner + " " + door, () -> academy.isNeutral(examiner, door));
            }
        }
    }

    private void lookBriefly() {
        int doors = doors();
        see("doorCount", academy::doorCount);
        see("examinerCount", academy::examinerCount);
        see("threshold", academy::threshold);
        see("entryCount", academy::entryCount);
        see("gradeTotal", academy::gradeTotal);
        for (int index = 0; index < doors; index++) {
            int door = index;
            see("examinersOf " + door, () -> academy.examinersOf(door));
            see("wasGranted " + door, () -> academy.wasGranted(door));
            see("panelCount " + door, () -> academy.panelCount(door));
        }
    }
}
