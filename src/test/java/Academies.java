/** Academies to begin with; each call makes a new one by the same calls. */
final class Academies {

    private Academies() {
    }

    static DoorAcademy empty() {
        return new DoorAcademy();
    }

    /**
     * Doors with frame 'f' and topic 0, and for each letter and digit an examiner with that frame and
     * lenience, topic 0 and capacity 4.
     */
    static DoorAcademy wide(int doors, String frames, String leniences) {
        DoorAcademy academy = new DoorAcademy();
        for (int door = 0; door < doors; door++) {
            academy.addDoor('f', 0);
        }
        for (int examiner = 0; examiner < frames.length(); examiner++) {
            academy.addExaminer(frames.charAt(examiner), 1, 4, leniences.charAt(examiner) - '0');
        }
        return academy;
    }

    /** Examiners 0 and 1 are assigned to the door and give it these grades. */
    static DoorAcademy graded(DoorAcademy academy, int door, int first, int second) {
        academy.assign(0, door);
        academy.assign(1, door);
        academy.grade(0, door, first);
        academy.grade(1, door, second);
        return academy;
    }

    static DoorAcademy after(DoorAcademy academy, Twins.On... calls) {
        for (Twins.On call : calls) {
            call.answer(academy);
        }
        return academy;
    }

    static DoorAcademy type(DoorAcademy academy, String text) {
        for (int index = 0; index < text.length(); index++) {
            academy.append(text.charAt(index));
        }
        return academy;
    }

    static Object run(DoorAcademy academy, String text) {
        type(academy, text);
        return Checks.outcome(academy::run);
    }

    static String line(DoorAcademy academy, int length) {
        StringBuilder line = new StringBuilder();
        for (int index = 0; index < length; index++) {
            line.append(academy.outputAt(index));
        }
        return line.toString();
    }

    static boolean restored(DoorAcademy academy) {
        academy.restore();
        return true;
    }

    /**
     * Five doors and five examiners with something of everything: 7 calls that can be undone, an
     * older state saved, a stored error position 5 and failed command 2, an output line, and "pla"
     * in the text buffer.
     *
     * Door 0 passes and has entry 1. Door 1 has failed and appealed in vain. Door 2 has 3 examiners,
     * passes just so and has the revoked entry 2. Door 3 has examiner 3, whose load is full. Door 4
     * has none. Examiner 4 has a conflict with door 2.
     */
    static DoorAcademy busy() {
        DoorAcademy academy = typeless();
        return type(academy, "pla");
    }

    /** As busy, but with an empty text buffer. */
    static DoorAcademy typeless() {
        DoorAcademy academy = unsaved();
        academy.undo();
        academy.undo();
        academy.save();
        academy.grade(2, 2, 5);
        academy.undo();
        academy.appeal(1);
        academy.assign(3, 3);
        academy.setThreshold(13);
        academy.undo();
        return academy;
    }

    /** Much of busy, with 8 calls that can be undone, no saved state and an empty text buffer. */
    static DoorAcademy unsaved() {
        DoorAcademy academy = wide(3, "ab", "09");
        academy.addDoor('a', 0);
        academy.addDoor('f', 1);
        academy.addExaminer('c', 3, 2, 9);
        academy.addExaminer('d', 1, 1, 0);
        academy.addExaminer('e', 63, 4, 5);
        run(academy, "plan;x");
        run(academy, "plan;plan;award 4");
        academy.declareConflict(4, 2);
        graded(academy, 0, 12, 12);
        academy.award(0);
        graded(academy, 2, 20, 0);
        academy.assign(2, 2);
        academy.award(2);
        graded(academy, 1, 3, 4);
        academy.revoke(2);
        academy.writeDoor(1);
        academy.setThreshold(12);
        academy.setThreshold(11);
        return academy;
    }

    /**
     * Every changing method can be called with success and a difference: door 0 has entry 1, door 1
     * fails and can appeal, door 2 passes and lacks the grade of examiner 2, door 3 has no examiners.
     * Two calls can be undone, and a state without an entry is saved.
     */
    static DoorAcademy ready() {
        DoorAcademy academy = wide(4, "abcde", "00999");
        graded(academy, 0, 12, 12);
        graded(academy, 1, 5, 5);
        graded(academy, 2, 15, 15);
        run(academy, "plan;x");
        run(academy, "award 3");
        academy.writeExaminer(0);
        academy.save();
        academy.restore();
        academy.assign(2, 2);
        academy.award(0);
        return academy;
    }

    /** Doors, examiners and assignments, and an output line that was never written. */
    static DoorAcademy unwritten() {
        return graded(wide(3, "abcde", "01234"), 1, 12, 3);
    }

    /** As busy, but with 8 doors and 6 examiners. */
    static DoorAcademy crowded() {
        DoorAcademy academy = busy();
        academy.addDoor('b', 5);
        academy.addDoor('c', 0);
        academy.addDoor('f', 2);
        academy.addExaminer('b', 5, 3, 1);
        return academy;
    }

    /** Every one of 8 doors has 3 examiners, and every one of 6 examiners has 4 doors. */
    static DoorAcademy full() {
        DoorAcademy academy = wide(8, "abcdea", "012345");
        academy.carryOutPlan();
        academy.carryOutPlan();
        academy.carryOutPlan();
        return academy;
    }

    /** As full, and every examiner has given the grade to every one of its doors. */
    static DoorAcademy fullOfGrades(int grade) {
        DoorAcademy academy = full();
        for (int examiner = 0; examiner < 6; examiner++) {
            for (int door = 0; door < 8; door++) {
                if (academy.isAssigned(examiner, door)) {
                    academy.grade(examiner, door, grade);
                }
            }
        }
        return academy;
    }

    /** Every one of 8 doors has an entry, in descending order of the doors. */
    static DoorAcademy decorated() {
        DoorAcademy academy = fullOfGrades(10);
        for (int door = 7; door >= 0; door--) {
            academy.award(door);
        }
        return academy;
    }
}
