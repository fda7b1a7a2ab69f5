/**
 * For each promise of the document ordinary inputs, the edges that it names, and wrong inputs with
 * the exception that comes first.
 */
public final class PromisesTest {

    private static final Class<IllegalArgumentException> ARGUMENT = IllegalArgumentException.class;
    private static final Class<IllegalStateException> STATE = IllegalStateException.class;
    private static final Class<IndexOutOfBoundsException> INDEX = IndexOutOfBoundsException.class;
    private static final Class<UnsupportedOperationException> UNSUPPORTED = UnsupportedOperationException.class;
    private static final Class<java.util.NoSuchElementException> MISSING = java.util.NoSuchElementException.class;
    private static final Class<ArithmeticException> ARITHMETIC = ArithmeticException.class;
    private static final int LEAST = Integer.MIN_VALUE;
    private static final int MOST = Integer.MAX_VALUE;

    private final Checks checks = new Checks("PromisesTest");

    public static void main(String[] args) {
        PromisesTest test = new PromisesTest();
        test.newObject();
        test.doorsAndExaminers();
        test.conflictsAndAssignments();
        test.plansAndPanels();
        test.gradesAndResults();
        test.appealsAndDegrees();
        test.totals();
        test.programs();
        test.output();
        test.undoAndSnapshot();
        test.checks.end();
    }

    private void newObject() {
        promise01();
    }

    private void doorsAndExaminers() {
        promise02();
        promise03();
        promises12to14();
        promises22and23();
    }

    private void conflictsAndAssignments() {
        promise04();
        promise05();
        promise15();
        promises24to27();
    }

    private void plansAndPanels() {
        promise06();
        promises29and30();
        promise31();
        promises32and33();
        promise34();
    }

    private void gradesAndResults() {
        promise07();
        promises08and35();
        promise16();
        promise17();
        promise18();
        promise21();
        promise28();
    }

    private void appealsAndDegrees() {
        promise09();
        promises19and20();
        promise10();
        promise11();
        promises36to38();
    }

    private void totals() {
        promises39and40();
        promises41to43();
        promise44();
    }

    private void programs() {
        promise45();
        promise46();
        promise46commands();
        promise46failures();
        promise47();
        promise48();
    }

    private void output() {
        promise49();
        promise50();
        promise51();
    }

    private void undoAndSnapshot() {
        promise52();
        promise52forEveryChange();
        promises53and54();
    }

    // ---- rows that several promises begin with

    /** Doors a0, b1, c0 and examiners d (all topics), e (topics 0 and 1), f (topic 0). */
    private static DoorAcademy small() {
        DoorAcademy academy = new DoorAcademy();
        academy.addDoor('a', 0);
        academy.addDoor('b', 1);
        academy.addDoor('c', 0);
        academy.addExaminer('d', 63, 2, 3);
        academy.addExaminer('e', 3, 4, 9);
        academy.addExaminer('f', 1, 1, 0);
        return academy;
    }

    /** Doors 0 to doors - 1 with frame 'f' and topic 0, and six examiners who may judge all of them. */
    private static DoorAcademy wide(int doors, String frames, String leniences) {
        DoorAcademy academy = new DoorAcademy();
        for (int door = 0; door < doors; door++) {
            academy.addDoor('f', 0);
        }
        for (int examiner = 0; examiner < frames.length(); examiner++) {
            academy.addExaminer(frames.charAt(examiner), 1, 4, leniences.charAt(examiner) - '0');
        }
        return academy;
    }

    private static void gradeBoth(DoorAcademy academy, int door, int first, int second) {
        academy.assign(0, door);
        academy.assign(1, door);
        academy.grade(0, door, first);
        academy.grade(1, door, second);
    }

    private static DoorAcademy type(DoorAcademy academy, String text) {
        for (int index = 0; index < text.length(); index++) {
            academy.append(text.charAt(index));
        }
        return academy;
    }

    private static Object run(DoorAcademy academy, String text) {
        type(academy, text);
        return Checks.outcome(academy::run);
    }

    private static boolean restored(DoorAcademy academy) {
        academy.restore();
        return true;
    }

    private static String line(DoorAcademy academy, int length) {
        StringBuilder line = new StringBuilder();
        for (int index = 0; index < length; index++) {
            line.append(academy.outputAt(index));
        }
        return line.toString();
    }

    private void due(String what, Object got, Object want) {
        checks.due(what, got, want);
    }

    private void refused(String what, Class<? extends RuntimeException> want, Checks.Call call) {
        checks.refused(what, want, call);
    }

    // ---- a new object

    private void promise01() {
        DoorAcademy academy = new DoorAcademy();
        due("1: doors", academy.doorCount(), 0);
        due("1: examiners", academy.examinerCount(), 0);
        due("1: threshold", academy.threshold(), 10);
        due("1: entries", academy.entryCount(), 0);
        due("1: assignments", academy.assignments(), 0);
        due("1: plan", academy.planSize(), 0);
        refused("1: output", INDEX, () -> academy.outputAt(0));
        refused("1: error position", MISSING, academy::errorPosition);
        refused("1: failed command", MISSING, academy::failedCommand);
        refused("1: undo", STATE, academy::undo);
        due("1: empty buffer", academy.append('p'), 1);
        DoorAcademy other = new DoorAcademy();
        other.addDoor('a', 0);
        due("1: objects share nothing", academy.doorCount(), 0);
    }

    // ---- doors and examiners

    private void promise02() {
        DoorAcademy academy = new DoorAcademy();
        refused("2: frame before a", ARGUMENT, () -> academy.addDoor('`', 0));
        refused("2: frame behind f", ARGUMENT, () -> academy.addDoor('g', 0));
        refused("2: capital frame", ARGUMENT, () -> academy.addDoor('A', 0));
        refused("2: frame outside of bytes", ARGUMENT, () -> academy.addDoor((char) ('a' + 256), 0));
        refused("2: topic -1", ARGUMENT, () -> academy.addDoor('a', -1));
        refused("2: topic 6", ARGUMENT, () -> academy.addDoor('a', 6));
        refused("2: least topic", ARGUMENT, () -> academy.addDoor('a', LEAST));
        refused("2: greatest topic", ARGUMENT, () -> academy.addDoor('a', MOST));
        due("2: nothing was added", academy.doorCount(), 0);
        for (int door = 0; door < 8; door++) {
            due("2: index", academy.addDoor("abcdefaf".charAt(door), door % 6), door);
            due("2: without examiners", academy.examinersOf(door), 0);
            due("2: without grades", academy.gradesOf(door), 0);
        }
        refused("2: ninth door", STATE, () -> academy.addDoor('a', 0));
        refused("2: bad ninth door", ARGUMENT, () -> academy.addDoor('g', 0));
        due("2: still eight", academy.doorCount(), 8);
    }

    private void promise03() {
        DoorAcademy academy = new DoorAcademy();
        refused("3: frame before a", ARGUMENT, () -> academy.addExaminer('`', 1, 1, 0));
        refused("3: frame behind f", ARGUMENT, () -> academy.addExaminer('g', 1, 1, 0));
        for (int topics : new int[] {0, 64, -1, LEAST, MOST}) {
            refused("3: topics " + topics, ARGUMENT, () -> academy.addExaminer('a', topics, 1, 0));
        }
        for (int capacity : new int[] {0, 5, -1, LEAST, MOST}) {
            refused("3: capacity " + capacity, ARGUMENT, () -> academy.addExaminer('a', 1, capacity, 0));
        }
        for (int lenience : new int[] {-1, 10, LEAST, MOST}) {
            refused("3: lenience " + lenience, ARGUMENT, () -> academy.addExaminer('a', 1, 1, lenience));
        }
        due("3: nothing was added", academy.examinerCount(), 0);
        due("3: least values", academy.addExaminer('a', 1, 1, 0), 0);
        due("3: greatest values", academy.addExaminer('f', 63, 4, 9), 1);
        for (int examiner = 2; examiner < 6; examiner++) {
            due("3: index", academy.addExaminer('b', 5, 2, 3), examiner);
        }
        refused("3: seventh", STATE, () -> academy.addExaminer('a', 1, 1, 0));
        refused("3: bad seventh", ARGUMENT, () -> academy.addExaminer('a', 1, 1, 10));
        due("3: no load", academy.load(1), 0);
    }

    private void promises12to14() {
        DoorAcademy academy = new DoorAcademy();
        refused("13: no door", INDEX, () -> academy.frameOfDoor(0));
        refused("14: no door", INDEX, () -> academy.topic(0));
        academy.addDoor('a', 5);
        academy.addDoor('f', 0);
        due("12: doors", academy.doorCount(), 2);
        due("13: first", academy.frameOfDoor(0), 'a');
        due("13: second", academy.frameOfDoor(1), 'f');
        due("14: first", academy.topic(0), 5);
        due("14: second", academy.topic(1), 0);
        for (int door : new int[] {-1, 2, 8, LEAST, MOST}) {
            refused("13: door " + door, INDEX, () -> academy.frameOfDoor(door));
            refused("14: door " + door, INDEX, () -> academy.topic(door));
        }
    }

    private void promises22and23() {
        DoorAcademy academy = small();
        due("22: examiners", academy.examinerCount(), 3);
        due("23: first", academy.frameOfExaminer(0), 'd');
        due("23: last", academy.frameOfExaminer(2), 'f');
        for (int examiner : new int[] {-1, 3, 6, LEAST, MOST}) {
            refused("23: examiner " + examiner, INDEX, () -> academy.frameOfExaminer(examiner));
        }
    }

    // ---- conflicts and assignments

    private void promise04() {
        DoorAcademy academy = small();
        academy.addDoor('d', 0);
        due("4: two are left neutral", academy.declareConflict(0, 0), 2);
        due("4: one is left neutral", academy.declareConflict(2, 0), 1);
        due("4: other doors count for themselves", academy.declareConflict(0, 1), 2);
        due("4: same frame was not neutral before", academy.declareConflict(0, 3), 2);
        refused("4: declared already", STATE, () -> academy.declareConflict(0, 0));
        academy.assign(1, 0);
        refused("4: assigned", STATE, () -> academy.declareConflict(1, 0));
        refused("4: no examiner", INDEX, () -> academy.declareConflict(3, 0));
        refused("4: no door", INDEX, () -> academy.declareConflict(0, 4));
        refused("4: negative examiner", INDEX, () -> academy.declareConflict(-1, 0));
        refused("4: negative door", INDEX, () -> academy.declareConflict(0, -1));
        refused("4: door 32", INDEX, () -> academy.declareConflict(0, 32));
        due("4: the refused one stays neutral", academy.isNeutral(1, 0), true);
    }

    private void promise05() {
        DoorAcademy academy = wide(5, "aabcde", "000000");
        academy.addDoor('a', 0);
        academy.addDoor('f', 1);
        due("5: first", academy.assign(0, 0), 1);
        due("5: second", academy.assign(1, 0), 2);
        refused("5: assigned already", STATE, () -> academy.assign(0, 0));
        due("5: third", academy.assign(2, 0), 3);
        refused("5: three examiners", STATE, () -> academy.assign(3, 0));
        refused("5: no examiner", INDEX, () -> academy.assign(6, 0));
        refused("5: no door", INDEX, () -> academy.assign(0, 7));
        refused("5: negative examiner", INDEX, () -> academy.assign(-1, 0));
        refused("5: negative door", INDEX, () -> academy.assign(0, LEAST));
        refused("5: same frame", UNSUPPORTED, () -> academy.assign(0, 5));
        refused("5: other topic", UNSUPPORTED, () -> academy.assign(0, 6));
        academy.declareConflict(0, 4);
        refused("5: conflict", UNSUPPORTED, () -> academy.assign(0, 4));
        academy.assign(0, 1);
        academy.assign(0, 2);
        due("5: up to the capacity", academy.assign(0, 3), 1);
        due("5: full load", academy.load(0), 4);
        refused("5: load before conflict", STATE, () -> academy.assign(0, 4));
        refused("5: load before frame", STATE, () -> academy.assign(0, 5));
        due("5: nothing was assigned", academy.examinersOf(5), 0);
        fullDoorBeforeTopic();
    }

    private void fullDoorBeforeTopic() {
        DoorAcademy academy = wide(1, "abcf", "0000");
        academy.assign(0, 0);
        academy.assign(1, 0);
        refused("5: same frame as the door", UNSUPPORTED, () -> academy.assign(3, 0));
        academy.assign(2, 0);
        refused("5: full door before frame", STATE, () -> academy.assign(3, 0));
    }

    private void promise15() {
        DoorAcademy academy = small();
        due("15: none", academy.examinersOf(0), 0);
        academy.assign(0, 0);
        academy.assign(1, 0);
        academy.assign(2, 0);
        due("15: three", academy.examinersOf(0), 3);
        due("15: another door", academy.examinersOf(1), 0);
        for (int door : new int[] {-1, 3, LEAST, MOST}) {
            refused("15: door " + door, INDEX, () -> academy.examinersOf(door));
        }
    }

    private void promises24to27() {
        DoorAcademy academy = small();
        academy.addDoor('d', 0);
        academy.declareConflict(1, 2);
        academy.assign(0, 0);
        academy.assign(0, 2);
        due("24: two doors", academy.load(0), 2);
        due("24: none", academy.load(1), 0);
        due("25: neutral", academy.isNeutral(1, 0), true);
        due("25: same frame", academy.isNeutral(0, 3), false);
        due("25: conflict", academy.isNeutral(1, 2), false);
        due("25: the topic does not matter", academy.isNeutral(2, 1), true);
        due("26: may", academy.mayJudge(0, 1), true);
        due("26: while assigned with full load", academy.mayJudge(0, 0), true);
        due("26: other topic", academy.mayJudge(2, 1), false);
        due("26: same frame", academy.mayJudge(0, 3), false);
        due("26: conflict", academy.mayJudge(1, 2), false);
        due("27: assigned", academy.isAssigned(0, 2), true);
        due("27: not assigned", academy.isAssigned(0, 1), false);
        due("27: other examiner", academy.isAssigned(2, 0), false);
        for (int wrong : new int[] {-1, 6, 8, 32, LEAST, MOST}) {
            refused("24: examiner " + wrong, INDEX, () -> academy.load(wrong));
            refused("25: examiner " + wrong, INDEX, () -> academy.isNeutral(wrong, 0));
            refused("25: door " + wrong, INDEX, () -> academy.isNeutral(0, wrong));
            refused("26: examiner " + wrong, INDEX, () -> academy.mayJudge(wrong, 0));
            refused("26: door " + wrong, INDEX, () -> academy.mayJudge(0, wrong));
            refused("27: examiner " + wrong, INDEX, () -> academy.isAssigned(wrong, 0));
            refused("27: door " + wrong, INDEX, () -> academy.isAssigned(0, wrong));
        }
    }

    // ---- plans and panels

    /** Door 0 can have examiners 0 and 1, door 1 examiner 0 alone, door 2 examiners 0 and 2. */
    private static DoorAcademy contested() {
        DoorAcademy academy = new DoorAcademy();
        academy.addDoor('f', 0);
        academy.addDoor('f', 1);
        academy.addDoor('f', 2);
        academy.addExaminer('a', 7, 1, 0);
        academy.addExaminer('b', 1, 1, 0);
        academy.addExaminer('c', 4, 2, 0);
        return academy;
    }

    private void promise06() {
        DoorAcademy academy = contested();
        due("6: all doors", academy.carryOutPlan(), 3);
        due("6: first door", academy.isAssigned(1, 0), true);
        due("6: second door", academy.isAssigned(0, 1), true);
        due("6: third door", academy.isAssigned(2, 2), true);
        due("6: one each", academy.assignments(), 3);
        due("6: nothing is left", academy.carryOutPlan(), 0);
        due("6: nothing was added", academy.assignments(), 3);
        DoorAcademy full = wide(2, "abcde", "00000");
        due("6: first round", full.carryOutPlan(), 2);
        due("6: second round", full.carryOutPlan(), 2);
        due("6: third round", full.carryOutPlan(), 2);
        due("6: doors with three examiners get none", full.carryOutPlan(), 0);
        due("6: lower indices first", full.load(2), 2);
        due("6: an empty academy", new DoorAcademy().carryOutPlan(), 0);
    }

    private void promises29and30() {
        DoorAcademy academy = contested();
        due("29: by exchanges", academy.planSize(), 3);
        due("30: by sets", academy.planSizeBySets(), 3);
        due("29: nothing was assigned", academy.assignments(), 0);
        academy.assign(0, 0);
        due("29: a door that nobody is left for", academy.planSize(), 2);
        due("30: a door that nobody is left for", academy.planSizeBySets(), 2);
        DoorAcademy capacity = new DoorAcademy();
        for (int door = 0; door < 8; door++) {
            capacity.addDoor('a', 0);
        }
        capacity.addExaminer('b', 1, 3, 0);
        due("29: the capacity limits", capacity.planSize(), 3);
        due("30: the capacity limits", capacity.planSizeBySets(), 3);
        capacity.addExaminer('c', 1, 4, 0);
        due("29: capacities add up", capacity.planSize(), 7);
        due("30: capacities add up", capacity.planSizeBySets(), 7);
        longChain();
    }

    /** Examiner i may judge topics i and i + 1, so the last door shifts all the others. */
    private void longChain() {
        DoorAcademy academy = new DoorAcademy();
        for (int topic : new int[] {1, 2, 3, 4, 5, 0}) {
            academy.addDoor('f', topic);
        }
        for (int examiner = 0; examiner < 5; examiner++) {
            academy.addExaminer('a', 3 << examiner, 1, 0);
        }
        academy.addExaminer('a', 32, 1, 0);
        due("29: along a long chain", academy.planSize(), 6);
        due("30: along a long chain", academy.planSizeBySets(), 6);
        for (int door = 0; door < 5; door++) {
            due("31: along a long chain", academy.plannedExaminer(door), door + 1);
        }
        due("31: the last door", academy.plannedExaminer(5), 0);
    }

    private void promise31() {
        DoorAcademy academy = contested();
        due("31: not the lowest examiner", academy.plannedExaminer(0), 1);
        due("31: the only examiner", academy.plannedExaminer(1), 0);
        due("31: the third door", academy.plannedExaminer(2), 2);
        academy.declareConflict(1, 0);
        due("31: the first door comes first", academy.plannedExaminer(0), 0);
        refused("31: the second door gets none", MISSING, () -> academy.plannedExaminer(1));
        due("31: the third door still", academy.plannedExaminer(2), 2);
        for (int door : new int[] {-1, 3, 8, LEAST, MOST}) {
            refused("31: door " + door, INDEX, () -> academy.plannedExaminer(door));
        }
        due("31: nothing was assigned", academy.assignments(), 0);
        DoorAcademy equal = wide(2, "ab", "00");
        due("31: the lower index", equal.plannedExaminer(1), 0);
        equal.assign(0, 1);
        due("31: one more examiner, not the same", equal.plannedExaminer(1), 1);
    }

    private void promises32and33() {
        DoorAcademy academy = wide(1, "aabbcd", "000000");
        due("32: frames differ", academy.panelCount(0), 12);
        due("33: frames differ", academy.panelCountByFrames(0), 12);
        academy.assign(0, 0);
        due("32: without the assigned", academy.panelCount(0), 7);
        due("33: without the assigned", academy.panelCountByFrames(0), 7);
        academy.declareConflict(4, 0);
        due("32: without the conflict", academy.panelCount(0), 2);
        due("33: without the conflict", academy.panelCountByFrames(0), 2);
        academy.declareConflict(5, 0);
        due("32: none", academy.panelCount(0), 0);
        due("33: none", academy.panelCountByFrames(0), 0);
        DoorAcademy topics = new DoorAcademy();
        topics.addDoor('f', 5);
        for (char frame : "abcdef".toCharArray()) {
            topics.addExaminer(frame, 1, 1, 0);
        }
        due("32: topics do not matter, the door's frame does", topics.panelCount(0), 10);
        due("33: topics do not matter, the door's frame does", topics.panelCountByFrames(0), 10);
        for (int door : new int[] {-1, 1, 8, LEAST, MOST}) {
            refused("32: door " + door, INDEX, () -> topics.panelCount(door));
            refused("33: door " + door, INDEX, () -> topics.panelCountByFrames(door));
        }
    }

    private void promise34() {
        DoorAcademy academy = wide(1, "aabbcd", "000000");
        due("34: first", academy.panelMember(0, 0), 0);
        due("34: second", academy.panelMember(0, 1), 2);
        due("34: third", academy.panelMember(0, 2), 4);
        academy.assign(0, 0);
        academy.declareConflict(4, 0);
        due("34: first of the others", academy.panelMember(0, 0), 1);
        due("34: third of the others", academy.panelMember(0, 2), 5);
        refused("34: position -1", ARGUMENT, () -> academy.panelMember(0, -1));
        refused("34: position 3", ARGUMENT, () -> academy.panelMember(0, 3));
        refused("34: no door", INDEX, () -> academy.panelMember(1, 0));
        refused("34: no door before the position", INDEX, () -> academy.panelMember(-1, 3));
        academy.declareConflict(5, 0);
        refused("34: no panel", MISSING, () -> academy.panelMember(0, 2));
        refused("34: position before no panel", ARGUMENT, () -> academy.panelMember(0, MOST));
    }

    // ---- grades and results

    private void promise07() {
        DoorAcademy academy = small();
        academy.assign(0, 0);
        academy.assign(1, 0);
        due("7: first", academy.grade(0, 0, 0), 1);
        due("7: second", academy.grade(1, 0, 20), 2);
        refused("7: given already", STATE, () -> academy.grade(0, 0, 5));
        refused("7: not assigned", STATE, () -> academy.grade(2, 0, 5));
        refused("7: grade 21", ARGUMENT, () -> academy.grade(2, 0, 21));
        refused("7: grade -1", ARGUMENT, () -> academy.grade(0, 0, -1));
        refused("7: no examiner before the grade", INDEX, () -> academy.grade(3, 0, 21));
        refused("7: no door before the grade", INDEX, () -> academy.grade(0, 3, 21));
        refused("7: negative indices", INDEX, () -> academy.grade(-1, -1, 5));
        due("7: nothing was given", academy.gradesOf(0), 2);
        due("7: the grade stays", academy.gradeBy(0, 0), 0);
    }

    private void promises08and35() {
        DoorAcademy academy = new DoorAcademy();
        due("8: initial", academy.setThreshold(0), 10);
        due("8: previous", academy.setThreshold(20), 0);
        due("35: present", academy.threshold(), 20);
        refused("8: -1", ARGUMENT, () -> academy.setThreshold(-1));
        refused("8: 21", ARGUMENT, () -> academy.setThreshold(21));
        due("35: unchanged", academy.threshold(), 20);
    }

    private void promise16() {
        DoorAcademy academy = small();
        academy.assign(0, 0);
        academy.assign(1, 0);
        due("16: none", academy.gradesOf(0), 0);
        academy.grade(1, 0, 0);
        due("16: one", academy.gradesOf(0), 1);
        due("16: another door", academy.gradesOf(1), 0);
        for (int door : new int[] {-1, 3, LEAST, MOST}) {
            refused("16: door " + door, INDEX, () -> academy.gradesOf(door));
        }
    }

    private void promise17() {
        DoorAcademy academy = wide(4, "abc", "000");
        refused("17: no grades", MISSING, () -> academy.result(0));
        academy.assign(0, 0);
        academy.grade(0, 0, 7);
        refused("17: one grade", MISSING, () -> academy.result(0));
        academy.assign(1, 0);
        academy.grade(1, 0, 12);
        due("17: half of the sum, rounded down", academy.result(0), 9);
        academy.assign(2, 0);
        due("17: an examiner without a grade", academy.result(0), 9);
        academy.grade(2, 0, 20);
        due("17: the middle one", academy.result(0), 12);
        gradeBoth(academy, 1, 0, 0);
        due("17: zero is a result", academy.result(1), 0);
        academy.assign(2, 1);
        academy.grade(2, 1, 19);
        due("17: two equal ones", academy.result(1), 0);
        gradeBoth(academy, 2, 20, 3);
        academy.assign(2, 2);
        academy.grade(2, 2, 11);
        due("17: the last one is the middle", academy.result(2), 11);
        gradeBoth(academy, 3, 20, 20);
        due("17: greatest", academy.result(3), 20);
        for (int door : new int[] {-1, 4, LEAST, MOST}) {
            refused("17: door " + door, INDEX, () -> academy.result(door));
        }
    }

    private void promise18() {
        DoorAcademy academy = wide(3, "abc", "000");
        gradeBoth(academy, 0, 10, 11);
        gradeBoth(academy, 1, 10, 9);
        academy.assign(0, 2);
        academy.grade(0, 2, 20);
        due("18: the threshold is enough", academy.passes(0), true);
        due("18: below the threshold", academy.passes(1), false);
        due("18: no result", academy.passes(2), false);
        academy.setThreshold(0);
        due("18: the present threshold", academy.passes(1), true);
        due("18: no result at threshold 0", academy.passes(2), false);
        academy.setThreshold(11);
        due("18: a higher threshold", academy.passes(0), false);
        refused("18: door 3", INDEX, () -> academy.passes(3));
        refused("18: door -1", INDEX, () -> academy.passes(-1));
    }

    private void promise21() {
        DoorAcademy academy = wide(6, "abcde", "00000");
        academy.assign(0, 0);
        academy.grade(0, 0, 20);
        gradeBoth(academy, 1, 5, 5);
        gradeBoth(academy, 2, 5, 6);
        academy.assign(2, 3);
        academy.assign(3, 3);
        academy.grade(2, 3, 9);
        academy.grade(3, 3, 9);
        academy.assign(2, 2);
        academy.grade(2, 2, 5);
        academy.assign(2, 4);
        academy.assign(3, 4);
        academy.grade(2, 4, 5);
        academy.grade(3, 4, 5);
        int[] ranks = {3, 2, 1, 4, 0, 5};
        for (int rank = 0; rank < ranks.length; rank++) {
            due("21: rank " + rank, academy.doorAtRank(rank), ranks[rank]);
        }
        for (int rank : new int[] {-1, 6, LEAST, MOST}) {
            refused("21: rank " + rank, MISSING, () -> academy.doorAtRank(rank));
        }
        refused("21: no doors", MISSING, () -> new DoorAcademy().doorAtRank(0));
    }

    private void promise28() {
        DoorAcademy academy = small();
        academy.assign(0, 0);
        academy.assign(1, 0);
        academy.grade(0, 0, 0);
        academy.grade(1, 0, 17);
        due("28: zero", academy.gradeBy(0, 0), 0);
        due("28: another", academy.gradeBy(1, 0), 17);
        refused("28: no grade", MISSING, () -> academy.gradeBy(0, 1));
        refused("28: not assigned", MISSING, () -> academy.gradeBy(2, 0));
        refused("28: no examiner", INDEX, () -> academy.gradeBy(3, 0));
        refused("28: no door", INDEX, () -> academy.gradeBy(0, 3));
        refused("28: negative", INDEX, () -> academy.gradeBy(-1, LEAST));
    }

    // ---- appeals and degrees

    private void promise09() {
        DoorAcademy academy = wide(4, "abcdea", "993390");
        refused("9: no result", STATE, () -> academy.appeal(0));
        gradeBoth(academy, 0, 7, 7);
        academy.setThreshold(7);
        refused("9: passes", STATE, () -> academy.appeal(0));
        academy.setThreshold(10);
        due("9: the lenience is just enough", academy.appeal(0), 3);
        refused("9: has appealed", STATE, () -> academy.appeal(0));
        gradeBoth(academy, 1, 6, 6);
        due("9: one member", academy.appeal(1), 1);
        due("9: one is too few", academy.wasGranted(1), false);
        refused("9: has appealed in vain", STATE, () -> academy.appeal(1));
        gradeBoth(academy, 2, 0, 0);
        due("9: no member", academy.appeal(2), 0);
        gradeBoth(academy, 3, 8, 8);
        academy.declareConflict(2, 3);
        academy.declareConflict(3, 3);
        refused("9: no panel", UNSUPPORTED, () -> academy.appeal(3));
        refused("9: no panel, still not appealed", UNSUPPORTED, () -> academy.appeal(3));
        due("9: not granted", academy.wasGranted(3), false);
        for (int door : new int[] {-1, 4, LEAST, MOST}) {
            refused("9: door " + door, INDEX, () -> academy.appeal(door));
        }
        refused("9: no result before no panel", STATE, () -> small().appeal(0));
    }

    private void promises19and20() {
        DoorAcademy academy = wide(3, "abcde", "00552");
        gradeBoth(academy, 0, 5, 5);
        due("19: not appealed", academy.wasGranted(0), false);
        due("20: neither", academy.isEntitled(0), false);
        due("9: two members", academy.appeal(0), 2);
        due("19: two are enough", academy.wasGranted(0), true);
        due("20: granted", academy.isEntitled(0), true);
        academy.setThreshold(20);
        due("19: stays granted", academy.wasGranted(0), true);
        due("20: stays entitled", academy.isEntitled(0), true);
        gradeBoth(academy, 1, 20, 20);
        due("20: passes", academy.isEntitled(1), true);
        due("19: passes without an appeal", academy.wasGranted(1), false);
        due("20: no result", academy.isEntitled(2), false);
        for (int door : new int[] {-1, 3, LEAST, MOST}) {
            refused("19: door " + door, INDEX, () -> academy.wasGranted(door));
            refused("20: door " + door, INDEX, () -> academy.isEntitled(door));
        }
    }

    private void promise10() {
        DoorAcademy academy = wide(4, "abcde", "00999");
        gradeBoth(academy, 2, 12, 12);
        gradeBoth(academy, 0, 3, 3);
        refused("10: fails", UNSUPPORTED, () -> academy.award(0));
        refused("10: no result", UNSUPPORTED, () -> academy.award(3));
        due("10: passes", academy.award(2), 1);
        refused("10: has an entry", STATE, () -> academy.award(2));
        academy.appeal(0);
        due("10: granted", academy.award(0), 2);
        academy.setThreshold(20);
        refused("10: an entry before no entitlement", STATE, () -> academy.award(2));
        academy.setThreshold(10);
        academy.revoke(1);
        refused("10: at most once", STATE, () -> academy.award(2));
        for (int door : new int[] {-1, 4, LEAST, MOST}) {
            refused("10: door " + door, INDEX, () -> academy.award(door));
        }
        due("10: two entries", academy.entryCount(), 2);
    }

    private void promise11() {
        DoorAcademy academy = wide(4, "abcde", "00000");
        refused("11: empty register", MISSING, () -> academy.revoke(1));
        gradeBoth(academy, 3, 12, 12);
        gradeBoth(academy, 1, 12, 12);
        academy.award(3);
        academy.award(1);
        due("11: the door of the second", academy.revoke(2), 1);
        due("11: the door of the first", academy.revoke(1), 3);
        refused("11: revoked already", STATE, () -> academy.revoke(1));
        for (int entry : new int[] {0, -1, 3, 9, LEAST, MOST}) {
            refused("11: entry " + entry, MISSING, () -> academy.revoke(entry));
        }
    }

    private void promises36to38() {
        DoorAcademy academy = wide(4, "abcde", "00000");
        gradeBoth(academy, 3, 12, 12);
        gradeBoth(academy, 1, 12, 12);
        academy.award(3);
        academy.award(1);
        academy.revoke(2);
        due("36: the revoked entry stays", academy.entryCount(), 2);
        due("37: first", academy.doorOf(1), 3);
        due("37: second", academy.doorOf(2), 1);
        due("38: first", academy.isRevoked(1), false);
        due("38: second", academy.isRevoked(2), true);
        for (int entry : new int[] {0, -1, 3, LEAST, MOST}) {
            refused("37: entry " + entry, MISSING, () -> academy.doorOf(entry));
            refused("38: entry " + entry, MISSING, () -> academy.isRevoked(entry));
        }
    }

    // ---- totals

    private void promises39and40() {
        DoorAcademy academy = small();
        academy.assign(0, 0);
        academy.assign(1, 0);
        academy.assign(1, 2);
        due("39: by loads", academy.assignments(), 3);
        due("40: by doors", academy.assignmentsByDoors(), 3);
        academy.undo();
        due("39: undone", academy.assignments(), 2);
        due("40: undone", academy.assignmentsByDoors(), 2);
    }

    private void promises41to43() {
        DoorAcademy academy = wide(4, "abcde", "00999");
        due("41: none", academy.gradeTotal(), 0L);
        refused("42: none", ARITHMETIC, academy::meanGrade);
        refused("43: none", ARITHMETIC, academy::passShare);
        academy.assign(0, 3);
        academy.grade(0, 3, 0);
        due("42: zero", academy.meanGrade(), 0.0);
        refused("43: no result", ARITHMETIC, academy::passShare);
        gradeBoth(academy, 0, 10, 10);
        gradeBoth(academy, 1, 3, 2);
        gradeBoth(academy, 2, 4, 1);
        due("41: sum", academy.gradeTotal(), 30L);
        due("42: mean", academy.meanGrade(), 30.0 / 7.0);
        due("43: share", academy.passShare(), 1.0f / 3.0f);
        academy.appeal(1);
        due("43: a granted appeal is no pass", academy.passShare(), 1.0f / 3.0f);
        academy.setThreshold(20);
        due("43: none passes", academy.passShare(), 0.0f);
        academy.setThreshold(0);
        due("43: all pass", academy.passShare(), 1.0f);
    }

    private void promise44() {
        due("44: empty", new DoorAcademy().isConsistent(), true);
        DoorAcademy academy = wide(8, "aabbcf", "012345");
        for (int round = 0; round < 4; round++) {
            due("44: in use", academy.isConsistent(), true);
            academy.carryOutPlan();
        }
        academy.undo();
        due("44: undone", academy.isConsistent(), true);
    }

    // ---- programs

    private void promise45() {
        DoorAcademy academy = new DoorAcademy();
        char[] any = {'p', '\0', (char) 233, (char) 0xffff, ';'};
        for (int length = 1; length <= 60; length++) {
            due("45: length", academy.append(any[length % any.length]), length);
        }
        refused("45: full", STATE, () -> academy.append('p'));
        refused("45: still full", STATE, () -> academy.append(' '));
        refused("46: not a program", ARGUMENT, academy::run);
        due("45: empty again", academy.append('p'), 1);
        due("45: not to be undone", Checks.outcome(academy::undo), "throws IllegalStateException");
    }

    private void promise46() {
        DoorAcademy academy = new DoorAcademy();
        due("46: one command", run(academy, "plan"), 1);
        due("46: empty afterwards", academy.append('p'), 1);
        due("46: the rest of it", run(academy, "lan;plan"), 2);
        due("46: twelve commands", run(academy, "plan;plan;plan;plan;plan;plan;plan;plan;plan;plan;plan;plan"), 12);
        due("46: a full buffer", run(academy, "door a 0;examiner b 01 1 0;assign 0 0;threshold 1;plan;plan "), "throws "
                + ARGUMENT.getSimpleName());
        due("46: sixty characters", run(academy, "door a 0;examiner b 01 1 0;assign 0 0;threshold 10;plan;plan"), 6);
        due("46: its effect", academy.isAssigned(0, 0), true);
        due("46: empty program", run(academy, ""), "throws " + ARGUMENT.getSimpleName());
        due("46: each of the four successes is one call to undo", academy.undo(), 3);
        due("46: undone as a whole", academy.doorCount(), 0);
    }

    private void promise46commands() {
        DoorAcademy academy = new DoorAcademy();
        due("46: doors", run(academy, "door f 5;door e 0;door f 0"), 3);
        due("46: door", academy.frameOfDoor(0), 'f');
        due("46: topic", academy.topic(0), 5);
        due("46: examiners", run(academy, "examiner a 63 4 9;examiner b 1 2 3;examiner c 9 1 0"), 3);
        due("46: more examiners", run(academy, "examiner d 08 1 9;examiner e 33 4 8"), 2);
        due("46: topics, capacity, lenience", line(academy, academy.writeExaminer(0)), "a0/4#012345+9");
        due("46: one digit", line(academy, academy.writeExaminer(1)), "b0/2#0+3");
        due("46: a leading zero", line(academy, academy.writeExaminer(3)), "d0/1#3+9");
        due("46: conflict", run(academy, "conflict 3 2"), 1);
        due("46: examiner, then door", academy.isNeutral(3, 2), false);
        due("46: assign", run(academy, "assign 0 2;assign 1 2"), 2);
        due("46: examiner, then door again", academy.isAssigned(1, 2), true);
        due("46: grade", run(academy, "grade 0 2 3;grade 1 2 07"), 2);
        due("46: grade of one digit", academy.gradeBy(0, 2), 3);
        due("46: grade of two digits", academy.gradeBy(1, 2), 7);
        due("46: threshold", run(academy, "threshold 13"), 1);
        due("46: its value", academy.threshold(), 13);
        due("46: appeal fails", run(academy, "appeal 2"), "throws " + UNSUPPORTED.getSimpleName());
        due("46: plan", run(academy, "plan"), 1);
        due("46: plan was carried out", academy.isAssigned(0, 0), true);
        due("46: threshold and award", run(academy, "threshold 5;award 2;revoke 1"), 3);
        due("46: award", academy.doorOf(1), 2);
        due("46: revoke", academy.isRevoked(1), true);
        DoorAcademy other = wide(1, "abcde", "00999");
        gradeBoth(other, 0, 1, 1);
        due("46: appeal and award", run(other, "appeal 0;award 0"), 2);
        due("46: appeal", other.wasGranted(0), true);
    }

    private void promise46failures() {
        DoorAcademy academy = small();
        academy.setThreshold(3);
        due("46: a command fails", run(academy, "threshold 9;assign 0 0;door a 0;conflict 0 0;plan"),
                "throws " + UNSUPPORTED.getSimpleName());
        due("46: no threshold", academy.threshold(), 3);
        due("46: no assignment", academy.assignments(), 0);
        due("46: no door", academy.doorCount(), 3);
        due("46: which one", academy.failedCommand(), 3);
        due("46: empty after the failure", academy.append(' '), 1);
        due("46: not a program", run(academy, "plan"), "throws " + ARGUMENT.getSimpleName());
        due("46: nothing of a text that is no program", run(academy, "threshold 9;assign 0 0 "),
                "throws " + ARGUMENT.getSimpleName());
        due("46: threshold again", academy.threshold(), 3);
        String[] failing = {"door a 6", "door a 9", "examiner a 0 1 0", "examiner a 64 1 0", "examiner a 99 1 0",
            "examiner a 1 0 0", "examiner a 1 5 0", "conflict 3 0", "conflict 0 3", "assign 9 0", "assign 2 1",
            "grade 0 0 21", "grade 0 0 1", "threshold 21", "threshold 99", "appeal 0", "appeal 8", "award 0",
            "award 9", "revoke 0", "revoke 1"};
        for (String text : failing) {
            DoorAcademy fresh = small();
            due("46: " + text, run(fresh, "threshold 1;" + text), "throws " + UNSUPPORTED.getSimpleName());
            due("46: failed command of " + text, fresh.failedCommand(), 1);
            due("46: no effect before " + text, fresh.threshold(), 10);
            due("46: failures are no calls to undo", fresh.undo(), 5);
        }
    }

    private void promise47() {
        Object[][] texts = {{"", 0}, {"x", 0}, {" plan", 0}, {"Plan", 0}, {"p", 1}, {"pl ", 2}, {"plans", 4},
            {"plan;", 5}, {"plan;;", 5}, {"plan; plan", 5}, {"plan;plan ;", 9}, {"a", 1}, {"ax", 1}, {"as", 2},
            {"apx", 2}, {"aw", 2}, {"awa ", 3}, {"award", 5}, {"award  1", 6}, {"award 1 ", 7}, {"award 12", 7},
            {"door g 0", 5}, {"door a", 6}, {"door a0", 6}, {"door a 0 ", 8}, {"door a 00", 8}, {"door a /", 7},
            {"door a :", 7}, {"examiner a 1", 12}, {"examiner a 12", 13}, {"examiner a 123", 13},
            {"examiner a 1 23", 14}, {"examiner a 1 2 34", 16}, {"examiner a  1", 11}, {"conflict 0 ", 11},
            {"grade 0 0 ", 10}, {"grade 0 0 100", 12}, {"grade 0 0 -1", 10}, {"threshold ", 10},
            {"threshold 1;x", 12}, {"threshold 111", 12}, {"revoke 1;revok", 14}, {"re voke 1", 2},
            {"gradE", 4}, {"plan\0", 4}, {"doo\u0172", 3}, {"threshold \u0661", 10}};
        for (Object[] text : texts) {
            DoorAcademy academy = new DoorAcademy();
            due("47: run of " + text[0], run(academy, (String) text[0]), "throws " + ARGUMENT.getSimpleName());
            due("47: error position of " + text[0], academy.errorPosition(), text[1]);
            refused("48: none of " + text[0], MISSING, academy::failedCommand);
        }
        DoorAcademy academy = new DoorAcademy();
        run(academy, "plan;plan;plan;plan;plan;plan;plan;plan;plan;plan;plan;plan;");
        due("47: a full buffer that could go on", academy.errorPosition(), 60);
        run(academy, "plan");
        due("47: stored last, before a success", academy.errorPosition(), 60);
        run(academy, "award 0");
        due("47: stored last, before a failure", academy.errorPosition(), 60);
        run(academy, "y");
        due("47: stored anew", academy.errorPosition(), 0);
        refused("47: none stored", MISSING, () -> new DoorAcademy().errorPosition());
    }

    private void promise48() {
        DoorAcademy academy = new DoorAcademy();
        refused("48: none stored", MISSING, academy::failedCommand);
        run(academy, "plan;plan;award 0;award 1");
        due("48: the first that fails", academy.failedCommand(), 2);
        refused("47: none stored by a failed command", MISSING, academy::errorPosition);
        run(academy, "plan");
        run(academy, "x");
        due("48: stored last", academy.failedCommand(), 2);
        run(academy, "door a 0;door b 9");
        due("48: stored anew", academy.failedCommand(), 1);
        run(academy, "door b 9;door a 0");
        due("48: the first command", academy.failedCommand(), 0);
    }

    // ---- output

    private void promise49() {
        DoorAcademy academy = new DoorAcademy();
        academy.addDoor('c', 4);
        for (int examiner = 0; examiner < 6; examiner++) {
            academy.addExaminer("abdefa".charAt(examiner), 63, 4, 0);
        }
        due("49: bare", line(academy, academy.writeDoor(0)), "c4");
        academy.assign(3, 0);
        academy.assign(0, 0);
        due("49: ascending", line(academy, academy.writeDoor(0)), "c4 0 3");
        academy.grade(0, 0, 12);
        due("49: one grade", line(academy, academy.writeDoor(0)), "c4 0:12 3");
        academy.grade(3, 0, 9);
        due("49: a result", line(academy, academy.writeDoor(0)), "c4 0:12 3:9=10");
        academy.assign(5, 0);
        academy.award(0);
        due("49: the example", line(academy, academy.writeDoor(0)), "c4 0:12 3:9 5=10*");
        academy.grade(5, 0, 20);
        due("49: three grades", line(academy, academy.writeDoor(0)), "c4 0:12 3:9 5:20=12*");
        due("49: length", academy.writeDoor(0), 20);
        academy.revoke(1);
        due("49: revoked", line(academy, academy.writeDoor(0)), "c4 0:12 3:9 5:20=12");
        refused("49: no door", INDEX, () -> academy.writeDoor(1));
        refused("49: door -1", INDEX, () -> academy.writeDoor(-1));
        due("49: the line stays", line(academy, 19), "c4 0:12 3:9 5:20=12");
    }

    private void promise50() {
        DoorAcademy academy = new DoorAcademy();
        academy.addDoor('a', 0);
        academy.addDoor('a', 3);
        academy.addExaminer('b', 41, 3, 4);
        academy.addExaminer('f', 63, 4, 9);
        academy.addExaminer('a', 1, 1, 0);
        due("50: without load", line(academy, academy.writeExaminer(0)), "b0/3#035+4");
        academy.assign(0, 0);
        academy.assign(0, 1);
        due("50: the example", line(academy, academy.writeExaminer(0)), "b2/3#035+4");
        due("50: all topics", line(academy, academy.writeExaminer(1)), "f0/4#012345+9");
        due("50: length", academy.writeExaminer(2), 8);
        for (int examiner : new int[] {-1, 3, 6, LEAST, MOST}) {
            refused("50: examiner " + examiner, INDEX, () -> academy.writeExaminer(examiner));
        }
    }

    private void promise51() {
        DoorAcademy academy = small();
        refused("51: initially empty", INDEX, () -> academy.outputAt(0));
        academy.writeExaminer(0);
        due("51: first", academy.outputAt(0), 'd');
        due("51: last", academy.outputAt(12), '3');
        refused("51: behind the line", INDEX, () -> academy.outputAt(13));
        academy.writeDoor(1);
        due("51: replaced", academy.outputAt(1), '1');
        refused("51: behind the shorter line", INDEX, () -> academy.outputAt(2));
        for (int index : new int[] {-1, 100, LEAST, MOST}) {
            refused("51: index " + index, INDEX, () -> academy.outputAt(index));
        }
        academy.undo();
        due("51: undo leaves the line", academy.outputAt(0), 'b');
    }

    // ---- undo and snapshot

    private void promise52() {
        DoorAcademy academy = new DoorAcademy();
        refused("52: nothing", STATE, academy::undo);
        for (int call = 1; call <= 11; call++) {
            academy.setThreshold(call);
        }
        for (int left = 7; left >= 0; left--) {
            due("52: left", academy.undo(), left);
            due("52: most recent first", academy.threshold(), left + 3);
        }
        refused("52: at most eight", STATE, academy::undo);
        due("52: the oldest stay", academy.threshold(), 3);
        academy.setThreshold(3);
        due("52: also if nothing is different", academy.undo(), 0);
        due("52: also an empty plan", academy.carryOutPlan(), 0);
        Checks.outcome(() -> academy.setThreshold(99));
        Checks.outcome(() -> academy.award(0));
        due("52: refused calls do not count", academy.undo(), 0);
        type(academy, "pl");
        academy.setThreshold(1);
        academy.undo();
        due("52: the text buffer stays", academy.append('a'), 3);
        undoBetweenCalls();
    }

    private void undoBetweenCalls() {
        DoorAcademy academy = new DoorAcademy();
        for (int call = 1; call <= 9; call++) {
            academy.setThreshold(call);
        }
        due("52: one of nine", academy.undo(), 7);
        due("52: two of nine", academy.undo(), 6);
        academy.setThreshold(19);
        due("52: a call after an undo", academy.undo(), 6);
        due("52: back before it", academy.threshold(), 7);
        due("52: further back", academy.undo(), 5);
        due("52: further back still", academy.threshold(), 6);
    }

    private void promise52forEveryChange() {
        DoorAcademy academy = wide(3, "abcdf", "00990");
        academy.addDoor('e', 1);
        academy.undo();
        due("52: addDoor", academy.doorCount(), 3);
        academy.addExaminer('e', 1, 1, 0);
        academy.undo();
        due("52: addExaminer", academy.examinerCount(), 5);
        academy.addExaminer('e', 1, 1, 9);
        academy.declareConflict(5, 2);
        academy.undo();
        due("52: declareConflict", academy.isNeutral(5, 2), true);
        academy.setThreshold(11);
        academy.carryOutPlan();
        academy.undo();
        due("52: carryOutPlan", academy.assignments(), 0);
        due("52: carryOutPlan alone", academy.threshold(), 11);
        gradeBoth(academy, 0, 4, 4);
        academy.undo();
        due("52: grade", academy.gradesOf(0), 1);
        academy.grade(1, 0, 5);
        academy.appeal(0);
        academy.undo();
        due("52: appeal", academy.wasGranted(0), false);
        due("52: the appeal can be made again", academy.appeal(0), 3);
        academy.award(0);
        academy.undo();
        due("52: award", academy.entryCount(), 0);
        academy.award(0);
        academy.revoke(1);
        academy.undo();
        due("52: revoke", academy.isRevoked(1), false);
        run(academy, "revoke 1;door a 0");
        academy.undo();
        due("52: run", academy.isRevoked(1), false);
        due("52: run as a whole", academy.doorCount(), 3);
    }

    private void promises53and54() {
        DoorAcademy academy = small();
        refused("54: nothing saved", STATE, () -> restored(academy));
        due("54: refused, so still to be undone", academy.undo(), 5);
        academy.save();
        due("53: no changing call", academy.undo(), 4);
        academy.setThreshold(1);
        academy.addDoor('a', 0);
        type(academy, "x");
        Checks.outcome(academy::run);
        academy.writeDoor(0);
        type(academy, "pl");
        academy.restore();
        due("54: threshold", academy.threshold(), 10);
        due("54: doors", academy.doorCount(), 3);
        due("54: examiners", academy.examinerCount(), 2);
        refused("54: no call can be undone", STATE, academy::undo);
        due("54: the text buffer stays", academy.append('a'), 3);
        due("54: the error position stays", academy.errorPosition(), 0);
        due("54: the output line stays", academy.outputAt(0), 'a');
        gradeBoth(academy, 0, 3, 3);
        academy.restore();
        due("54: stays saved", academy.assignments(), 0);
        due("54: grades too", academy.gradesOf(0), 0);
        academy.setThreshold(5);
        academy.save();
        academy.undo();
        due("53: what was saved is not undone", academy.threshold(), 10);
        academy.restore();
        due("53: replaces what was saved before", academy.threshold(), 5);
        academy.setThreshold(6);
        due("54: calls after it can be undone", academy.undo(), 0);
        due("54: and are", academy.threshold(), 5);
        restoredRows();
    }

    private void restoredRows() {
        DoorAcademy academy = new DoorAcademy();
        academy.addDoor('a', 1);
        academy.addExaminer('b', 6, 2, 7);
        academy.save();
        academy.undo();
        academy.undo();
        academy.addExaminer('d', 63, 4, 0);
        academy.addDoor('c', 4);
        academy.declareConflict(0, 0);
        academy.restore();
        due("54: the door as it was saved", line(academy, academy.writeDoor(0)), "a1");
        due("54: the examiner as it was saved", line(academy, academy.writeExaminer(0)), "b0/2#12+7");
        due("54: the conflicts as they were saved", academy.isNeutral(0, 0), true);
        restoredRegister();
    }

    private void restoredRegister() {
        DoorAcademy academy = wide(3, "ab", "00");
        gradeBoth(academy, 1, 12, 12);
        academy.award(1);
        academy.revoke(1);
        academy.save();
        academy.undo();
        academy.undo();
        gradeBoth(academy, 2, 12, 12);
        academy.award(2);
        academy.restore();
        due("54: the register as it was saved", academy.doorOf(1), 1);
        due("54: the revocations as they were saved", academy.isRevoked(1), true);
        due("54: the grades as they were saved", academy.gradesOf(2), 0);
    }
}
