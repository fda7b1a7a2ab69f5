import java.util.ArrayList;
import java.util.List;
import java.util.NoSuchElementException;

/** The sentences of 'Terms' that name a boundary case, and that of 'What it is'. */
final class TermsBoundaries {

    private static final Class<IllegalArgumentException> ARGUMENT = IllegalArgumentException.class;
    private static final Class<IllegalStateException> STATE = IllegalStateException.class;
    private static final Class<IndexOutOfBoundsException> INDEX = IndexOutOfBoundsException.class;
    private static final Class<UnsupportedOperationException> UNSUPPORTED = UnsupportedOperationException.class;
    private static final Class<NoSuchElementException> MISSING = NoSuchElementException.class;

    private final Sentences sentences;

    TermsBoundaries(Sentences sentences) {
        this.sentences = sentences;
    }

    void all() {
        callsOfAnObject();
        atMost8Doors();
        frameAndTopicOfADoor();
        atMost6Examiners();
        valuesOfAnExaminer();
        setOfTopics();
        neutral();
        mayJudge();
        atMost3ExaminersOfADoor();
        loadAndCapacity();
        oneGradeFrom0To20();
        resultOf2Or3Grades();
        thresholdFrom0To20();
        passing();
        doorsOfAPlan();
        examinersOfAPlan();
        greatestPlan();
        comparedPlans();
        bestPlan();
        appealOnce();
        panels();
        comparedPanels();
        membersInFavour();
        atLeast2Members();
        entitled();
        entries();
        revokedEntries();
        atMostOneDegree();
        textBuffer();
        grammar();
        errorPosition();
        undo();
        whatUndoConcerns();
        nothingChanges();
    }

    private void due(String what, Object got, Object want) {
        sentences.due(what, got, want);
    }

    private void refused(String what, Class<? extends RuntimeException> want, Checks.Call call) {
        sentences.refused(what, want, call);
    }

    private void callsOfAnObject() {
        sentences.begin("What it is", "An object is used for at most 512 calls after it has been made; what later"
                + " calls answer is free.");
        DoorAcademy changed = new DoorAcademy();
        for (int call = 1; call <= 512; call++) {
            due("call " + call, changed.setThreshold(call % 21), call == 1 ? 10 : (call - 1) % 21);
        }
        DoorAcademy undone = new DoorAcademy();
        for (int call = 1; call < 512; call++) {
            undone.setThreshold(call % 21);
        }
        due("call 512 undoes", undone.undo(), 7);
        DoorAcademy typed = new DoorAcademy();
        for (int call = 1; call <= 510; call += 5) {
            Academies.run(typed, "plan");
        }
        due("call 511 types", typed.append('p'), 1);
        refused("call 512 runs", ARGUMENT, typed::run);
    }

    // ---- doors

    private void atMost8Doors() {
        sentences.ofTerms("There are at most 8 doors with the indices 0 to d - 1.");
        DoorAcademy academy = new DoorAcademy();
        for (int doors = 0; doors < 8; doors++) {
            int count = doors;
            refused("before door " + doors, INDEX, () -> academy.frameOfDoor(count));
            due("index", academy.addDoor((char) ('a' + doors % 6), 5 - doors % 6), doors);
            due("frame of the last", academy.frameOfDoor(doors), (char) ('a' + doors % 6));
            due("frame of the first", academy.frameOfDoor(0), 'a');
        }
        refused("a ninth", STATE, () -> academy.addDoor('a', 0));
        refused("index 8", INDEX, () -> academy.frameOfDoor(8));
        due("after an undo there is room again", academy.undo() + academy.addDoor('f', 0), 14);
    }

    private void frameAndTopicOfADoor() {
        sentences.ofTerms("A door has a frame, which is a letter from 'a' to 'f', and a thesis with a topic from 0"
                + " to 5.");
        for (char character = 0; character < 300; character++) {
            char frame = character;
            DoorAcademy academy = new DoorAcademy();
            Object want = character >= 'a' && character <= 'f' ? (Object) 0 : "throws IllegalArgumentException";
            due("frame " + (int) frame, Checks.outcome(() -> academy.addDoor(frame, 0)), want);
        }
        for (int number = -3; number < 300; number++) {
            int topic = number;
            DoorAcademy academy = new DoorAcademy();
            Object want = topic >= 0 && topic <= 5 ? (Object) 0 : "throws IllegalArgumentException";
            due("topic " + topic, Checks.outcome(() -> academy.addDoor('f', topic)), want);
        }
    }

    // ---- examiners

    private void atMost6Examiners() {
        sentences.ofTerms("There are at most 6 examiners with the indices 0 to e - 1.");
        DoorAcademy academy = new DoorAcademy();
        for (int examiners = 0; examiners < 6; examiners++) {
            int count = examiners;
            refused("before examiner " + examiners, INDEX, () -> academy.frameOfExaminer(count));
            due("index", academy.addExaminer((char) ('f' - examiners), 1 << examiners, 1, examiners), examiners);
            due("frame of the last", academy.frameOfExaminer(examiners), (char) ('f' - examiners));
            due("frame of the first", academy.frameOfExaminer(0), 'f');
        }
        refused("a seventh", STATE, () -> academy.addExaminer('a', 1, 1, 0));
        refused("index 6", INDEX, () -> academy.frameOfExaminer(6));
        due("after an undo there is room again", academy.undo() + academy.addExaminer('b', 2, 2, 2), 10);
    }

    private void valuesOfAnExaminer() {
        sentences.ofTerms("An examiner has a frame, a set of at least one topic, a capacity from 1 to 4 and a"
                + " lenience from 0 to 9.");
        for (char character = 0; character < 300; character++) {
            char frame = character;
            dueOfExaminer("frame " + (int) frame, character >= 'a' && character <= 'f', frame, 1, 1, 0);
        }
        for (int number = -3; number < 300; number++) {
            dueOfExaminer("capacity " + number, number >= 1 && number <= 4, 'a', 1, number, 0);
            dueOfExaminer("lenience " + number, number >= 0 && number <= 9, 'a', 1, 1, number);
        }
        dueOfExaminer("no topic", false, 'a', 0, 1, 0);
        DoorAcademy academy = new DoorAcademy();
        academy.addExaminer('f', 32, 4, 9);
        due("greatest values", Academies.line(academy, academy.writeExaminer(0)), "f0/4#5+9");
    }

    private void dueOfExaminer(String what, boolean allowed, char frame, int topics, int capacity, int lenience) {
        DoorAcademy academy = new DoorAcademy();
        due(what, Checks.outcome(() -> academy.addExaminer(frame, topics, capacity, lenience)),
                allowed ? (Object) 0 : "throws IllegalArgumentException");
    }

    private void setOfTopics() {
        sentences.ofTerms("A set of topics is given as the sum of 2 to the power of each topic in it, 1 to 63.");
        for (int set = -70; set < 300; set++) {
            dueOfExaminer("set " + set, set >= 1 && set <= 63, 'a', set, 1, 0);
        }
        for (int set = 1; set <= 63; set++) {
            DoorAcademy academy = new DoorAcademy();
            academy.addExaminer('a', set, 1, 0);
            StringBuilder topics = new StringBuilder();
            for (int topic = 0; topic <= 5; topic++) {
                int door = academy.addDoor('b', topic);
                boolean isInSet = Integer.toBinaryString(64 + set).charAt(6 - topic) == '1';
                due("topic " + topic + " in " + set, academy.mayJudge(0, door), isInSet);
                topics.append(isInSet ? "" + topic : "");
            }
            due("set " + set, Academies.line(academy, academy.writeExaminer(0)), "a0/1#" + topics + "+0");
        }
    }

    private void neutral() {
        sentences.ofTerms("An examiner is neutral to a door if they have different frames and no conflict between"
                + " them is declared.");
        DoorAcademy academy = new DoorAcademy();
        for (char frame = 'a'; frame <= 'f'; frame++) {
            academy.addDoor(frame, 0);
            academy.addExaminer(frame, 32, 1, 0);
        }
        academy.addDoor('a', 0);
        academy.addDoor('f', 0);
        for (int examiner = 0; examiner < 6; examiner++) {
            for (int door = 0; door < 8; door++) {
                int frame = door < 6 ? door : door == 6 ? 0 : 5;
                due("examiner " + examiner + ", door " + door, academy.isNeutral(examiner, door), examiner != frame);
            }
        }
        academy.declareConflict(5, 0);
        academy.declareConflict(0, 7);
        due("first door", academy.isNeutral(5, 0), false);
        due("last door", academy.isNeutral(0, 7), false);
        due("the conflict is not that of another pair", academy.isNeutral(5, 6) && academy.isNeutral(0, 5), true);
        due("same frame and a conflict", academy.declareConflict(0, 0), 4);
        due("neither", academy.isNeutral(0, 0), false);
    }

    private void mayJudge() {
        sentences.ofTerms("An examiner may judge a door if the examiner is neutral to the door and the topic of its"
                + " thesis is in the set of the examiner.");
        DoorAcademy academy = new DoorAcademy();
        academy.addDoor('a', 0);
        academy.addDoor('a', 5);
        academy.addExaminer('b', 1, 1, 0);
        academy.addExaminer('b', 32, 1, 0);
        academy.addExaminer('a', 63, 1, 0);
        due("first topic", academy.mayJudge(0, 0), true);
        due("not the last", academy.mayJudge(0, 1), false);
        due("last topic", academy.mayJudge(1, 1), true);
        due("not the first", academy.mayJudge(1, 0), false);
        due("same frame", academy.mayJudge(2, 0), false);
        academy.declareConflict(0, 0);
        due("conflict", academy.mayJudge(0, 0), false);
        academy.assign(1, 1);
        due("the load does not matter", academy.mayJudge(1, 1), true);
    }

    // ---- assignments

    private void atMost3ExaminersOfADoor() {
        sentences.ofTerms("A door has at most 3 examiners.");
        DoorAcademy academy = Academies.wide(2, "abcde", "00000");
        for (int examiner = 0; examiner < 3; examiner++) {
            due("examiner " + examiner, academy.assign(examiner, 1), examiner + 1);
        }
        refused("a fourth", STATE, () -> academy.assign(3, 1));
        due("another door has room", academy.assign(3, 0), 1);
        DoorAcademy planned = Academies.wide(1, "abcde", "00000");
        for (int round = 0; round < 5; round++) {
            due("by a plan", planned.carryOutPlan(), round < 3 ? 1 : 0);
        }
        due("3 by plans", planned.examinersOf(0), 3);
        refused("a fourth by hand", STATE, () -> planned.assign(4, 0));
    }

    private void loadAndCapacity() {
        sentences.ofTerms("The load of an examiner is the number of doors to which the examiner is assigned; it is"
                + " never greater than the capacity.");
        for (int capacity = 1; capacity <= 4; capacity++) {
            DoorAcademy byHand = Academies.wide(8, "", "");
            byHand.addExaminer('a', 1, capacity, 0);
            for (int door = 0; door < capacity; door++) {
                due("before", byHand.load(0), door);
                byHand.assign(0, 7 - door);
            }
            due("by hand", byHand.load(0), capacity);
            refused("one more than " + capacity, STATE, () -> byHand.assign(0, 0));
            DoorAcademy planned = Academies.wide(8, "", "");
            planned.addExaminer('a', 1, capacity, 0);
            due("by a plan", planned.carryOutPlan(), capacity);
            due("by a plan, then", planned.load(0), capacity);
            due("no more by a plan", planned.carryOutPlan(), 0);
            refused("one more than " + capacity + " by a plan", STATE, () -> planned.assign(0, 7));
        }
    }

    private void oneGradeFrom0To20() {
        sentences.ofTerms("An examiner who is assigned to a door can give it one grade from 0 to 20.");
        for (int number = -3; number < 300; number++) {
            int grade = number;
            DoorAcademy academy = Academies.wide(1, "a", "0");
            academy.assign(0, 0);
            boolean allowed = grade >= 0 && grade <= 20;
            due("grade " + grade, Checks.outcome(() -> academy.grade(0, 0, grade)),
                    allowed ? (Object) 1 : "throws IllegalArgumentException");
            due("grade " + grade + ", then", Checks.outcome(() -> academy.gradeBy(0, 0)),
                    allowed ? (Object) grade : "throws NoSuchElementException");
        }
        for (int first : new int[] {0, 20}) {
            DoorAcademy academy = Academies.wide(1, "ab", "00");
            refused("not assigned", STATE, () -> academy.grade(0, 0, 5));
            academy.assign(0, 0);
            academy.grade(0, 0, first);
            refused("a second", STATE, () -> academy.grade(0, 0, 5));
            refused("another, not assigned", STATE, () -> academy.grade(1, 0, 5));
            due("the first stays", academy.gradeBy(0, 0), first);
        }
    }

    private void resultOf2Or3Grades() {
        sentences.ofTerms("A door with at least 2 grades has a result, which is the median of its grades: half of the"
                + " sum of 2 grades, rounded down, or the middle one of 3 grades.");
        for (int first = 0; first <= 20; first++) {
            for (int second = 0; second <= 20; second++) {
                DoorAcademy academy = Academies.wide(1, "abc", "000");
                academy.assign(2, 0);
                academy.assign(0, 0);
                academy.assign(1, 0);
                refused("0 grades", MISSING, () -> academy.result(0));
                academy.grade(2, 0, first);
                refused("1 grade", MISSING, () -> academy.result(0));
                academy.grade(0, 0, second);
                due(first + ", " + second, academy.result(0), (first + second) / 2);
                for (int third : new int[] {0, 1, 9, 10, 11, 19, 20}) {
                    int middle = Math.max(Math.min(first, second), Math.min(Math.max(first, second), third));
                    academy.grade(1, 0, third);
                    due(first + ", " + second + ", " + third, academy.result(0), middle);
                    academy.undo();
                }
            }
        }
    }

    private void thresholdFrom0To20() {
        sentences.ofTerms("The threshold is from 0 to 20, initially 10.");
        due("initially", new DoorAcademy().threshold(), 10);
        for (int number = -3; number < 300; number++) {
            int threshold = number;
            DoorAcademy academy = new DoorAcademy();
            boolean allowed = threshold >= 0 && threshold <= 20;
            due("threshold " + threshold, Checks.outcome(() -> academy.setThreshold(threshold)),
                    allowed ? (Object) 10 : "throws IllegalArgumentException");
            due("threshold " + threshold + ", then", academy.threshold(), allowed ? threshold : 10);
        }
    }

    private void passing() {
        sentences.ofTerms("A door passes if it has a result that is not less than the present threshold.");
        for (int result = 0; result <= 20; result++) {
            DoorAcademy academy = Academies.graded(Academies.wide(2, "ab", "00"), 1, result, result);
            for (int threshold = 0; threshold <= 20; threshold++) {
                academy.setThreshold(threshold);
                due(result + " of " + threshold, academy.passes(1), result >= threshold);
                due("no result of " + threshold, academy.passes(0), false);
            }
        }
    }

    // ---- plans

    private void doorsOfAPlan() {
        sentences.ofTerms("A plan gives one more examiner each to some of the doors that have fewer than 3 examiners.");
        DoorAcademy academy = Academies.wide(1, "abcde", "00000");
        int[] assigned = {4, 0, 1};
        int[] planned = {0, 0, 1};
        for (int examiners = 0; examiners < 3; examiners++) {
            due("with " + examiners + " examiners", academy.planSize(), 1);
            due("with " + examiners + " examiners, by sets", academy.planSizeBySets(), 1);
            due("with " + examiners + " examiners, who", academy.plannedExaminer(0), planned[examiners]);
            academy.assign(assigned[examiners], 0);
            due("one more", academy.examinersOf(0), examiners + 1);
        }
        due("with 3 examiners", academy.planSize(), 0);
        due("with 3 examiners, by sets", academy.planSizeBySets(), 0);
        refused("with 3 examiners, who", MISSING, () -> academy.plannedExaminer(0));
        due("with 3 examiners, carried out", academy.carryOutPlan(), 0);
    }

    private void examinersOfAPlan() {
        sentences.ofTerms("The examiner may judge the door and is not assigned to it yet, and no load exceeds the"
                + " capacity if the plan is carried out.");
        DoorAcademy academy = Academies.wide(1, "", "");
        due("no examiners", academy.planSize() + academy.planSizeBySets(), 0);
        academy.addExaminer('f', 63, 4, 0);
        due("same frame", academy.planSize() + academy.planSizeBySets(), 0);
        academy.addExaminer('a', 62, 4, 0);
        due("other topics", academy.planSize() + academy.planSizeBySets(), 0);
        academy.addExaminer('b', 63, 4, 0);
        academy.declareConflict(2, 0);
        due("conflict", academy.planSize() + academy.planSizeBySets(), 0);
        academy.undo();
        academy.assign(2, 0);
        due("assigned", academy.planSize() + academy.planSizeBySets(), 0);
        academy.undo();
        due("not assigned", academy.planSize() + academy.planSizeBySets(), 2);
        for (int capacity = 1; capacity <= 4; capacity++) {
            DoorAcademy loaded = Academies.wide(8, "", "");
            loaded.addExaminer('a', 1, capacity, 0);
            for (int load = 0; load <= capacity; load++) {
                due("capacity " + capacity + ", load " + load, loaded.planSize(), capacity - load);
                due("capacity " + capacity + ", load " + load + ", by sets", loaded.planSizeBySets(), capacity - load);
                Checks.outcome(() -> loaded.assign(0, 7 - loaded.load(0)));
            }
        }
    }

    private void greatestPlan() {
        sentences.ofTerms("A greatest plan gives examiners to as many doors as possible.");
        DoorAcademy none = new DoorAcademy();
        due("no doors", none.planSize() + none.planSizeBySets(), 0);
        DoorAcademy all = Academies.wide(8, "ab", "00");
        due("all 8 doors", all.planSize(), 8);
        due("all 8 doors by sets", all.planSizeBySets(), 8);
        due("all 8 doors, carried out", all.carryOutPlan(), 8);
        due("nothing is left", all.planSize() + all.planSizeBySets(), 0);
        // Examiner i may judge topics i and i + 1, so the last door shifts all the others.
        DoorAcademy chain = new DoorAcademy();
        for (int topic : new int[] {1, 2, 3, 4, 5, 0}) {
            chain.addDoor('f', topic);
        }
        for (int examiner = 0; examiner < 5; examiner++) {
            chain.addExaminer('a', 3 << examiner, 1, 0);
        }
        due("5 examiners", chain.planSize(), 5);
        due("5 examiners, by sets", chain.planSizeBySets(), 5);
        chain.addExaminer('a', 32, 1, 0);
        due("the longest chain", chain.planSize(), 6);
        due("the longest chain, by sets", chain.planSizeBySets(), 6);
        due("the longest chain, carried out", chain.carryOutPlan(), 6);
        // The chain for door 3 goes through doors that the chain for door 2 has moved.
        DoorAcademy twice = new DoorAcademy();
        for (int topic = 0; topic < 4; topic++) {
            twice.addDoor('f', topic);
        }
        for (int topics : new int[] {13, 1, 6, 2}) {
            twice.addExaminer('a', topics, 1, 0);
        }
        due("a chain over a chain", twice.planSize(), 4);
        due("a chain over a chain, by sets", twice.planSizeBySets(), 4);
        due("a chain over a chain, who", planOf(twice), "1320");
    }

    private void comparedPlans() {
        sentences.ofTerms("Plans are compared door by door in ascending order: at the first door at which two plans"
                + " differ, the plan that gives an examiner comes before the one that gives none, and otherwise the"
                + " one that gives the examiner with the lower index comes first.");
        DoorAcademy one = Academies.wide(8, "", "");
        one.addExaminer('a', 1, 1, 0);
        due("one rather than none", planOf(one), "0.......");
        one.declareConflict(0, 0);
        due("at the first door that can", planOf(one), ".0......");
        due("the lower index", planOf(Academies.wide(8, "ab", "00")), "00001111");
        DoorAcademy descending = Academies.wide(2, "", "");
        descending.addExaminer('a', 1, 1, 0);
        descending.addExaminer('b', 1, 1, 0);
        due("the first door decides", planOf(descending), "01");
        descending.declareConflict(0, 0);
        due("then the second", planOf(descending), "10");
        DoorAcademy last = Academies.wide(8, "abcdea", "000000");
        for (int examiner = 0; examiner < 5; examiner++) {
            last.declareConflict(examiner, 7);
        }
        due("the last examiner for the last door", planOf(last), "00001115");
    }

    /** For each door the planned examiner, or a dot. */
    private static String planOf(DoorAcademy academy) {
        StringBuilder plan = new StringBuilder();
        for (int index = 0; index < academy.doorCount(); index++) {
            int door = index;
            Object examiner = Checks.outcome(() -> academy.plannedExaminer(door));
            plan.append(examiner instanceof Integer ? examiner : ".");
        }
        return plan.toString();
    }

    private void bestPlan() {
        sentences.ofTerms("The best plan is the first one of the greatest plans.");
        DoorAcademy academy = Academies.wide(2, "", "");
        academy.addExaminer('a', 1, 1, 0);
        academy.addExaminer('b', 1, 1, 0);
        academy.declareConflict(1, 1);
        due("a greater plan before a lower index", planOf(academy), "10");
        due("carried out", academy.carryOutPlan(), 2);
        due("to door 0", academy.isAssigned(1, 0) && !academy.isAssigned(0, 0), true);
        due("to door 1", academy.isAssigned(0, 1) && !academy.isAssigned(1, 1), true);
        DoorAcademy none = Academies.wide(1, "", "");
        due("none", planOf(none), ".");
        due("none, carried out", none.carryOutPlan(), 0);
    }

    // ---- appeals

    private void appealOnce() {
        sentences.ofTerms("A door that has a result and does not pass can appeal once.");
        DoorAcademy academy = Academies.wide(2, "abcde", "00999");
        refused("no result", STATE, () -> academy.appeal(1));
        Academies.graded(academy, 1, 9, 10);
        academy.setThreshold(9);
        refused("passes just so", STATE, () -> academy.appeal(1));
        academy.setThreshold(10);
        due("fails by one", academy.appeal(1), 3);
        refused("twice", STATE, () -> academy.appeal(1));
        academy.setThreshold(20);
        refused("twice at another threshold", STATE, () -> academy.appeal(1));
        academy.undo();
        academy.undo();
        due("once after an undo", academy.appeal(1), 3);
        Academies.graded(academy, 0, 0, 0);
        due("another door", academy.appeal(0), 0);
        refused("twice in vain", STATE, () -> academy.appeal(0));
    }

    private void panels() {
        sentences.ofTerms("A panel for a door is a set of 3 examiners who are neutral to the door and not assigned to"
                + " it, and no two of whom have the same frame.");
        duePanels("2 examiners", Academies.wide(1, "ab", "00"), 0);
        duePanels("3 examiners", Academies.wide(1, "abc", "000"), 1);
        duePanels("first and second with one frame", Academies.wide(1, "aab", "000"), 0);
        duePanels("first and third with one frame", Academies.wide(1, "aba", "000"), 0);
        duePanels("second and third with one frame", Academies.wide(1, "abb", "000"), 0);
        duePanels("one with the frame of the door", Academies.wide(1, "abf", "000"), 0);
        duePanels("as many as there can be", Academies.wide(1, "abcdea", "000000"), 16);
        DoorAcademy framed = new DoorAcademy();
        for (char frame = 'a'; frame <= 'f'; frame++) {
            framed.addDoor(frame, 0);
            framed.addExaminer(frame, 1, 1, 0);
        }
        for (int door = 0; door < 6; door++) {
            due("every frame but that of door " + door, framed.panelCount(door), 10);
            due("every frame but that of door " + door + ", by frames", framed.panelCountByFrames(door), 10);
        }
        DoorAcademy academy = Academies.wide(1, "abcd", "0000");
        academy.assign(3, 0);
        duePanels("without the assigned", academy, 1);
        academy.declareConflict(0, 0);
        duePanels("without the conflict", academy, 0);
    }

    private void duePanels(String what, DoorAcademy academy, int want) {
        due(what, academy.panelCount(0), want);
        due(what + ", by frames", academy.panelCountByFrames(0), want);
        due(what + ", the first", Checks.outcome(() -> academy.panelMember(0, 0)) instanceof Integer, want > 0);
    }

    private void comparedPanels() {
        sentences.ofTerms("Panels are compared by their members in ascending order: the panel with the lower index at"
                + " the first member at which they differ comes first.");
        due("the lowest", firstPanel(Academies.wide(1, "abcdea", "000000")), "012");
        due("a higher third", firstPanel(Academies.wide(1, "abbbac", "000000")), "015");
        due("a higher second", firstPanel(Academies.wide(1, "aaabbc", "000000")), "035");
        due("a higher second before a higher first", firstPanel(Academies.wide(1, "aabcde", "000000")), "023");
        due("a higher first", firstPanel(Academies.wide(1, "fffabc", "000000")), "345");
        due("a lower first with higher others", firstPanel(Academies.wide(1, "abbbbc", "000000")), "015");
    }

    private static String firstPanel(DoorAcademy academy) {
        return "" + academy.panelMember(0, 0) + academy.panelMember(0, 1) + academy.panelMember(0, 2);
    }

    private void membersInFavour() {
        sentences.ofTerms("The first panel decides: a member is in favour if the lenience of the member is not less"
                + " than the threshold minus the result, both as they are at this time.");
        for (int lenience = 0; lenience <= 9; lenience++) {
            for (int result = 0; result < 20; result++) {
                DoorAcademy academy = Academies.wide(1, "abcde", "00" + lenience + "00");
                Academies.graded(academy, 0, result, result);
                academy.setThreshold(20);
                int missing = 20 - result;
                due("lenience " + lenience + " for " + missing, academy.appeal(0), lenience >= missing ? 1 : 0);
            }
        }
        DoorAcademy other = Academies.wide(1, "abcddd", "000099");
        Academies.graded(other, 0, 1, 1);
        other.addDoor('f', 0);
        other.assign(2, 1);
        refused("no panel without a third frame", UNSUPPORTED, () -> other.appeal(0));
        DoorAcademy first = Academies.graded(Academies.wide(1, "abcdee", "000009"), 0, 1, 1);
        due("a member of another panel does not count", first.appeal(0), 0);
        DoorAcademy assigned = Academies.graded(Academies.wide(1, "abcde", "99000"), 0, 1, 1);
        due("the examiners of the door do not count", assigned.appeal(0), 0);
        for (int panelist = 0; panelist < 6; panelist++) {
            due("examiner " + panelist + " alone", votesWith(panelist), 1);
        }
        thresholdAtThisTime();
    }

    /** The panel holds the examiner and two others, and no other of the six is in favour. */
    private static int votesWith(int panelist) {
        StringBuilder leniences = new StringBuilder("000000");
        leniences.setCharAt(panelist, '9');
        DoorAcademy academy = Academies.wide(1, "abcdea", leniences.toString());
        int[] graders = {(panelist + 1) % 6, (panelist + 2) % 6};
        for (int grader : graders) {
            academy.assign(grader, 0);
            academy.grade(grader, 0, 1);
        }
        if (panelist >= 3) {
            academy.declareConflict(panelist - 3, 0);
        }
        return academy.appeal(0);
    }

    private void thresholdAtThisTime() {
        DoorAcademy academy = Academies.graded(Academies.wide(2, "abcde", "00555"), 0, 10, 10);
        Academies.graded(academy, 1, 10, 10);
        academy.setThreshold(15);
        due("5 are missing", academy.appeal(0), 3);
        academy.setThreshold(16);
        due("6 are missing", academy.appeal(1), 0);
        due("the first stays granted", academy.wasGranted(0), true);
        academy.setThreshold(11);
        due("the second stays refused", academy.wasGranted(1), false);
        academy.undo();
        academy.undo();
        academy.assign(2, 1);
        academy.grade(2, 1, 20);
        refused("no panel is left", UNSUPPORTED, () -> academy.appeal(1));
    }

    private void atLeast2Members() {
        sentences.ofTerms("The appeal is granted if at least 2 members are in favour.");
        String[] leniences = {"00000", "00900", "00090", "00009", "00990", "00909", "00099", "00999"};
        for (String given : leniences) {
            DoorAcademy academy = Academies.graded(Academies.wide(1, "abcde", given), 0, 5, 5);
            int inFavour = given.replace("0", "").length();
            due(given, academy.appeal(0), inFavour);
            due(given + ", then", academy.wasGranted(0), inFavour >= 2);
        }
    }

    // ---- degrees

    private void entitled() {
        sentences.ofTerms("A door is entitled to a degree if it passes or if its appeal was granted.");
        DoorAcademy academy = Academies.wide(2, "abcde", "00990");
        due("no result", academy.isEntitled(0), false);
        Academies.graded(academy, 0, 10, 9);
        due("fails by one", academy.isEntitled(0), false);
        academy.appeal(0);
        due("granted", academy.isEntitled(0), true);
        academy.setThreshold(9);
        due("both", academy.isEntitled(0), true);
        Academies.graded(academy, 1, 9, 9);
        due("passes just so", academy.isEntitled(1), true);
        academy.setThreshold(10);
        due("does not pass any more", academy.isEntitled(1), false);
        due("granted for good", academy.isEntitled(0), true);
    }

    private void entries() {
        sentences.ofTerms("An awarded degree gets an entry in the register; entries are numbered from 1 in the order"
                + " in which they are made.");
        DoorAcademy academy = Academies.fullOfGrades(10);
        for (int entry = 1; entry <= 8; entry++) {
            int door = (3 * entry + 2) % 8;
            due("number", academy.award(door), entry);
            due("door", academy.doorOf(entry), door);
        }
        due("the first", academy.doorOf(1), 5);
        due("the last", academy.doorOf(8), 2);
    }

    private void revokedEntries() {
        sentences.ofTerms("A degree can be revoked; its entry stays.");
        DoorAcademy academy = Academies.decorated();
        for (int entry : new int[] {8, 1, 2, 3, 4, 5, 6, 7}) {
            due("not yet", academy.isRevoked(entry), false);
            due("its door", academy.revoke(entry), 8 - entry);
            due("revoked", academy.isRevoked(entry), true);
            due("its door stays", academy.doorOf(entry), 8 - entry);
            due("entries", academy.entryCount(), 8);
        }
    }

    private void atMostOneDegree() {
        sentences.ofTerms("A door gets a degree at most once.");
        DoorAcademy academy = Academies.decorated();
        for (int door = 0; door < 8; door++) {
            int index = door;
            refused("door " + door, STATE, () -> academy.award(index));
            academy.revoke(8 - door);
            refused("door " + door + ", revoked", STATE, () -> academy.award(index));
        }
        DoorAcademy undone = Academies.decorated();
        undone.undo();
        due("once more after an undo", undone.award(0), 8);
    }

    // ---- programs

    private void textBuffer() {
        sentences.ofTerms("The text buffer holds at most 60 characters.");
        String program = "door a 0;examiner b 01 1 0;assign 0 0;threshold 10;plan;plan";
        DoorAcademy academy = new DoorAcademy();
        for (int length = 1; length <= 60; length++) {
            due("character", academy.append(program.charAt(length - 1)), length);
        }
        refused("character 61", STATE, () -> academy.append(';'));
        due("all 60 run", academy.run(), 6);
        due("and were carried out", academy.isAssigned(0, 0), true);
        due("room again", academy.append('p'), 1);
        DoorAcademy number = new DoorAcademy();
        due("a number at the end of 60", Academies.run(number, "plan;".repeat(8) + "door a 0;threshold 1"), 10);
        due("its value", number.threshold(), 1);
        Academies.run(number, "threshold 12");
        Academies.run(number, "threshold 2");
        due("no digit of an older text", number.threshold(), 2);
        Academies.run(number, "plan;plan");
        due("no command of an older text", Academies.run(number, "plan"), 1);
    }

    private void grammar() {
        grammarOfPrograms();
        grammarOfCommands();
        calledMethods();
        sentences.ofTerms("frame   = \"a\" | \"b\" | \"c\" | \"d\" | \"e\" | \"f\"");
        for (char character = 0; character < 300; character++) {
            boolean isFrame = "abcdef".indexOf(character) >= 0;
            dueRun("door " + character + " 0", isFrame ? (Object) 1 : "error 5");
            dueRun("examiner " + character + " 1 1 0", isFrame ? (Object) 1 : "error 9");
        }
        sentences.ofTerms("number  = digit [ digit ]");
        for (char character = 0; character < 300; character++) {
            boolean isDigit = "0123456789".indexOf(character) >= 0;
            dueRun("threshold " + character, isDigit ? (Object) 1 : "error 10");
            dueRun("threshold 1" + character, isDigit ? (Object) 1 : character == ';' ? "error 12" : "error 11");
            dueRun("threshold 1" + character + "0", isDigit ? "error 12" : character == ';' ? "error 12" : "error 11");
        }
        dueRun("threshold 00", 1);
        dueRun("threshold 20", 1);
        dueRun("threshold 21", "failed 0");
        dueRun("threshold 99", "failed 0");
        dueRun("examiner a 63 4 9", 1);
        dueRun("examiner a 64 4 9", "failed 0");
    }

    private void grammarOfPrograms() {
        sentences.ofTerms("program = command { \";\" command }");
        dueRun("", "error 0");
        dueRun(";", "error 0");
        dueRun("plan", 1);
        dueRun("plan;", "error 5");
        dueRun(";plan", "error 0");
        dueRun("plan;plan", 2);
        dueRun("plan;;plan", "error 5");
        dueRun("plan,plan", "error 4");
        dueRun("plan;plan;plan;plan;plan;plan;plan;plan;plan;plan;plan;plan", 12);
        dueRun("plan;plan;plan;plan;plan;plan;plan;plan;plan;plan;plan;plan;", "error 60");
        dueRun("plan;plan;plan;plan;plan;plan;plan;plan;plan;plan;plan;planp", "error 59");
    }

    private void grammarOfCommands() {
        sentences.ofTerms("command = \"door \" frame \" \" digit | \"examiner \" frame \" \" number \" \" digit \" \""
                + " digit | \"conflict \" digit \" \" digit | \"assign \" digit \" \" digit");
        dueRun("door f 5", 1);
        dueRun("door f 6", "failed 0");
        dueRun("door f 9", "failed 0");
        dueRun("door f 10", "error 8");
        dueRun("examiner f 1 4 9", 1);
        dueRun("examiner f 1 5 9", "failed 0");
        dueRun("examiner f 1 0 9", "failed 0");
        dueRun("examiner f 1 10 9", "error 14");
        dueRun("examiner f 1 1 10", "error 16");
        dueRun("conflict 0 0", "failed 0");
        dueRun("conflict 9 9", "failed 0");
        dueRun("conflict 0 10", "error 12");
        dueRun("assign 0 0", "failed 0");
        dueRun("assign 9 9", "failed 0");
        dueRun("assign 00 0", "error 8");
        sentences.ofTerms("| \"plan\" | \"grade \" digit \" \" digit \" \" number | \"threshold \" number | \"appeal"
                + " \" digit | \"award \" digit | \"revoke \" digit");
        dueRun("plan", 1);
        dueRun("plan ", "error 4");
        dueRun("grade 0 0 20", "failed 0");
        dueRun("grade 0 0 200", "error 12");
        dueRun("grade 10 0 20", "error 7");
        dueRun("threshold 0", 1);
        dueRun("appeal 9", "failed 0");
        dueRun("appeal 10", "error 8");
        dueRun("award 9", "failed 0");
        dueRun("award 10", "error 7");
        dueRun("revoke 0", "failed 0");
        dueRun("revoke 9", "failed 0");
        dueRun("revoke 10", "error 8");
        for (String text : new String[] {"door a ", "examiner a 1 1 ", "conflict 0 ", "assign ", "grade 0 0 ",
            "appeal ", "award ", "revoke "}) {
            dueRun(text + "/", "error " + text.length());
            dueRun(text + ":", "error " + text.length());
            dueRun(text, "error " + text.length());
        }
    }

    private void calledMethods() {
        sentences.ofTerms("The commands call addDoor (frame, topic), addExaminer (frame, topics, capacity, lenience),"
                + " declareConflict (examiner, door), assign (examiner, door), carryOutPlan, grade (examiner, door,"
                + " grade), setThreshold, appeal, award and revoke (entry).");
        dueSame("door f 5", academy -> academy.addDoor('f', 5));
        dueSame("examiner f 63 4 9", academy -> academy.addExaminer('f', 63, 4, 9));
        dueSame("examiner a 01 2 0", academy -> academy.addExaminer('a', 1, 2, 0));
        dueSame("conflict 4 3", academy -> academy.declareConflict(4, 3));
        dueSame("assign 4 3", academy -> academy.assign(4, 3));
        dueSame("plan", DoorAcademy::carryOutPlan);
        dueSame("grade 2 2 0", academy -> academy.grade(2, 2, 0));
        dueSame("grade 2 2 20", academy -> academy.grade(2, 2, 20));
        dueSame("threshold 0", academy -> academy.setThreshold(0));
        dueSame("threshold 20", academy -> academy.setThreshold(20));
        dueSame("appeal 1", academy -> academy.appeal(1));
        dueSame("award 2", academy -> academy.award(2));
        dueSame("revoke 1", academy -> academy.revoke(1));
    }

    private void dueSame(String text, Twins.On call) {
        Twins.Setup called = () -> Academies.after(Academies.ready(), call);
        Twins.Setup ran = () -> Academies.after(Academies.ready(), academy -> Academies.run(academy, text));
        due(text, Twins.between(ran, called), Twins.NO_DIFFERENCE);
    }

    /** The answer of run on a new object, or what it stores. */
    private void dueRun(String text, Object want) {
        DoorAcademy academy = new DoorAcademy();
        Object got = Academies.run(academy, text);
        if (got.equals("throws IllegalArgumentException")) {
            got = "error " + academy.errorPosition();
        } else if (got.equals("throws UnsupportedOperationException")) {
            got = "failed " + academy.failedCommand();
        }
        due("run of \"" + text + "\"", got, want);
    }

    private void errorPosition() {
        sentences.ofTerms("The error position of a text that is not a program is the index of the first character"
                + " that cannot continue any program with the same preceding characters, or the length of the text if"
                + " the text is a proper prefix of a program.");
        String[] commands = {"door a 0", "examiner a 1 1 0", "conflict 0 0", "assign 0 0", "plan", "grade 0 0 0",
            "threshold 0", "appeal 0", "award 0", "revoke 0"};
        for (String command : commands) {
            for (String before : new String[] {"", "plan;", "threshold 12;plan;"}) {
                for (int length = 0; length < command.length(); length++) {
                    String prefix = before + command.substring(0, length);
                    dueRun(prefix, "error " + prefix.length());
                    dueRun(prefix + '\0', "error " + prefix.length());
                    dueRun(prefix + "\uffff plan", "error " + prefix.length());
                    dueRun(prefix + 'X', "error " + prefix.length());
                }
                dueRun(before + command + " ", "error " + (before + command).length());
                dueRun(before + command + ";", "error " + (before + command + ";").length());
            }
        }
        dueRun("ap", "error 2");
        dueRun("as", "error 2");
        dueRun("aw", "error 2");
        dueRun("aa", "error 1");
    }

    // ---- undo

    private void undo() {
        sentences.ofTerms("Each successful call of them can be undone, also if nothing is different after it; at most"
                + " the 8 most recent ones, the most recent one first.");
        for (int calls = 0; calls <= 40; calls++) {
            DoorAcademy academy = new DoorAcademy();
            for (int call = 1; call <= calls; call++) {
                academy.setThreshold(call % 21);
            }
            int kept = Math.min(calls, 8);
            for (int undone = 1; undone <= kept; undone++) {
                due("left of " + calls, academy.undo(), kept - undone);
                int threshold = calls == undone ? 10 : (calls - undone) % 21;
                due("undo " + undone + " of " + calls, academy.threshold(), threshold);
            }
            refused("no more of " + calls, STATE, academy::undo);
        }
        undoBetweenCalls();
        undoWithoutADifference();
        sentences.ofTerms("The changing methods are addDoor, addExaminer, declareConflict, assign, carryOutPlan,"
                + " grade, setThreshold, appeal, award, revoke and run.");
        undoOfEachMethod();
    }

    /** Compares with a list of thresholds while calls and undos alternate in every rhythm. */
    private void undoBetweenCalls() {
        for (int rhythm = 0; rhythm < 256; rhythm++) {
            DoorAcademy academy = new DoorAcademy();
            List<Integer> before = new ArrayList<>();
            int threshold = 10;
            for (int step = 0; step < 60; step++) {
                if (step < 12 || (rhythm >> step % 8 & 1) == 1) {
                    before.add(threshold);
                    threshold = step % 21;
                    academy.setThreshold(threshold);
                    if (before.size() > 8) {
                        before.remove(0);
                    }
                } else if (!before.isEmpty()) {
                    threshold = before.remove(before.size() - 1);
                    due("left in rhythm " + rhythm, academy.undo(), before.size());
                } else {
                    refused("none left in rhythm " + rhythm, STATE, academy::undo);
                }
                due("threshold in rhythm " + rhythm, academy.threshold(), threshold);
            }
        }
    }

    private void undoWithoutADifference() {
        DoorAcademy academy = new DoorAcademy();
        academy.setThreshold(10);
        due("the same threshold", academy.undo(), 0);
        academy.carryOutPlan();
        due("an empty plan", academy.undo(), 0);
        Academies.run(academy, "plan;threshold 10");
        due("a program without effect", academy.undo(), 0);
        academy.setThreshold(5);
        for (int call = 0; call < 8; call++) {
            academy.carryOutPlan();
        }
        for (int left = 7; left >= 0; left--) {
            due("they fill the 8 places", academy.undo(), left);
        }
        due("so that the call before them stays", academy.threshold(), 5);
        academy.setThreshold(4);
        academy.doorCount();
        academy.planSize();
        academy.save();
        Checks.outcome(() -> academy.addDoor('g', 0));
        Checks.outcome(academy::run);
        academy.append('x');
        due("other calls are none to undo", academy.undo(), 0);
        due("the threshold before", academy.threshold(), 5);
    }

    private void undoOfEachMethod() {
        dueUndone("addDoor", academy -> academy.addDoor('a', 1));
        dueUndone("addExaminer", academy -> academy.addExaminer('b', 1, 4, 9));
        dueUndone("declareConflict", academy -> academy.declareConflict(4, 3));
        dueUndone("assign", academy -> academy.assign(0, 3));
        dueUndone("carryOutPlan", DoorAcademy::carryOutPlan);
        dueUndone("grade", academy -> academy.grade(2, 2, 20));
        dueUndone("setThreshold", academy -> academy.setThreshold(0));
        dueUndone("appeal", academy -> academy.appeal(1));
        dueUndone("award", academy -> academy.award(2));
        dueUndone("revoke", academy -> academy.revoke(1));
        dueUndone("run", academy -> Academies.run(academy, "threshold 3;door a 0;revoke 1;plan;plan"));
        due("no other method", Twins.afterCall(Academies::crowded, TermsBoundaries::askEverything),
                Twins.NO_DIFFERENCE);
    }

    private void dueUndone(String what, Twins.On change) {
        due(what + " changes something",
                Twins.afterCall(Academies::ready, change).equals(Twins.NO_DIFFERENCE), false);
        DoorAcademy academy = Academies.ready();
        change.answer(academy);
        due(what + " leaves the older calls", academy.undo(), 2);
        Twins.On changeAndUndo = other -> {
            change.answer(other);
            return other.undo();
        };
        due(what + ", undone", Twins.afterCall(Academies::ready, changeAndUndo), Twins.NO_DIFFERENCE);
    }

    private static Object askEverything(DoorAcademy academy) {
        for (int index = 0; index < 8; index++) {
            int door = index;
            Checks.outcome(() -> academy.result(door));
            Checks.outcome(() -> academy.plannedExaminer(door));
            Checks.outcome(() -> academy.panelMember(door, 2));
            academy.panelCount(door);
            academy.panelCountByFrames(door);
            academy.doorAtRank(door);
            academy.passes(door);
            academy.isEntitled(door);
            Checks.outcome(() -> academy.gradeBy(door % 6, door));
            Checks.outcome(() -> academy.isRevoked(door));
        }
        return academy.planSize() + academy.planSizeBySets() + academy.meanGrade() + academy.passShare()
                + academy.gradeTotal() + academy.assignments() + academy.assignmentsByDoors()
                + (academy.isConsistent() ? 1 : 0) + academy.errorPosition() + academy.failedCommand();
    }

    private void whatUndoConcerns() {
        sentences.ofTerms("Undo, save and restore concern the whole state except the text buffer, the error position,"
                + " the failed command and the output line.");
        dueLeft("undo", DoorAcademy::undo);
        dueLeft("restore", Academies::restored);
        dueLeft("save", TermsBoundaries::saved);
        DoorAcademy typed = Academies.type(new DoorAcademy(), "plan");
        typed.run();
        typed.undo();
        due("undo of run does not bring its text back", typed.append('p'), 1);
        typed.save();
        typed.append('l');
        typed.restore();
        due("restore does not bring a text back", typed.append('a'), 3);
        Twins.Setup restored = () -> Academies.after(Academies.ready(), Academies::restored);
        Twins.On everyChange = academy -> {
            Academies.run(academy, "examiner b 63 4 9;door a 0;conflict 4 3;assign 0 3;plan");
            Academies.run(academy, "grade 2 2 20;threshold 9;appeal 1;award 2;award 1;revoke 1");
            return Academies.restored(academy);
        };
        due("the whole state", Twins.afterCall(restored, everyChange), Twins.NO_DIFFERENCE);
    }

    /** The text buffer, the stored numbers and the output line stay as they are. */
    private void dueLeft(String what, Twins.On call) {
        DoorAcademy academy = Academies.ready();
        Academies.run(academy, "plan;plan;plan;award 3");
        Academies.run(academy, "plan;plans");
        String line = Academies.line(academy, academy.writeDoor(2));
        academy.addDoor('a', 0);
        Academies.type(academy, "threshold ");
        call.answer(academy);
        due(what + ": failed command", academy.failedCommand(), 3);
        due(what + ": error position", academy.errorPosition(), 9);
        due(what + ": line", Academies.line(academy, line.length()), line);
        refused(what + ": end of the line", INDEX, () -> academy.outputAt(line.length()));
        due(what + ": length of the text", academy.append('7'), 11);
        due(what + ": text", academy.run(), 1);
        due(what + ": its effect", academy.threshold(), 7);
    }

    private static boolean saved(DoorAcademy academy) {
        academy.save();
        return true;
    }

    private void nothingChanges() {
        sentences.ofTerms("If a call throws an exception, nothing changes, except that run empties the text buffer"
                + " and stores the error position or the failed command.");
        due("many refused calls in a row", Twins.afterCall(Academies::crowded, TermsBoundaries::refuseMany),
                Twins.NO_DIFFERENCE);
        DoorAcademy academy = Academies.crowded();
        refused("run of no program", ARGUMENT, academy::run);
        due("stores the error position", academy.errorPosition(), 3);
        due("and no failed command", academy.failedCommand(), 2);
        due("empties the buffer", academy.append('p'), 1);
        due("run of a failing program", Academies.run(academy, "lan;door a 0"), "throws UnsupportedOperationException");
        due("stores the failed command", academy.failedCommand(), 1);
        due("and no error position", academy.errorPosition(), 3);
        due("empties the buffer again", academy.append('p'), 1);
    }

    private static Object refuseMany(DoorAcademy academy) {
        StringBuilder outcomes = new StringBuilder();
        outcomes.append(Checks.outcome(() -> academy.addDoor('a', 0)));
        outcomes.append(Checks.outcome(() -> academy.addDoor('g', 0)));
        outcomes.append(Checks.outcome(() -> academy.addExaminer('a', 1, 1, 0)));
        outcomes.append(Checks.outcome(() -> academy.addExaminer('a', 0, 1, 0)));
        outcomes.append(Checks.outcome(() -> academy.declareConflict(4, 2)));
        outcomes.append(Checks.outcome(() -> academy.declareConflict(6, 0)));
        outcomes.append(Checks.outcome(() -> academy.assign(0, 0)));
        outcomes.append(Checks.outcome(() -> academy.assign(0, 3)));
        outcomes.append(Checks.outcome(() -> academy.grade(0, 0, 21)));
        outcomes.append(Checks.outcome(() -> academy.grade(0, 0, 1)));
        outcomes.append(Checks.outcome(() -> academy.setThreshold(21)));
        outcomes.append(Checks.outcome(() -> academy.appeal(1)));
        outcomes.append(Checks.outcome(() -> academy.appeal(8)));
        outcomes.append(Checks.outcome(() -> academy.award(0)));
        outcomes.append(Checks.outcome(() -> academy.award(1)));
        outcomes.append(Checks.outcome(() -> academy.revoke(2)));
        outcomes.append(Checks.outcome(() -> academy.revoke(3)));
        outcomes.append(Checks.outcome(() -> academy.writeDoor(8)));
        outcomes.append(Checks.outcome(() -> academy.writeExaminer(6)));
        return outcomes;
    }
}
