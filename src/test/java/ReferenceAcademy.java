import java.util.ArrayDeque;
import java.util.ArrayList;
import java.util.Collections;
import java.util.Comparator;
import java.util.Deque;
import java.util.HashSet;
import java.util.List;
import java.util.Map;
import java.util.NoSuchElementException;
import java.util.Set;
import java.util.TreeMap;
import java.util.TreeSet;
import java.util.regex.Matcher;
import java.util.regex.Pattern;

/**
 * The document's words written down in the dearest and plainest way, to compare DoorAcademy with:
 * plans by trying all of them, programs by a regular expression, undo by keeping whole copies.
 */
final class ReferenceAcademy {

    private static final class Door {
        char frame;
        int topic;
        final Map<Integer, Integer> gradeOfExaminer = new TreeMap<>();
        final Set<Integer> examiners = new TreeSet<>();
        final Set<Integer> conflicts = new TreeSet<>();
        boolean appealed;
        boolean granted;

        Door copy() {
            Door copy = new Door();
            copy.frame = frame;
            copy.topic = topic;
            copy.gradeOfExaminer.putAll(gradeOfExaminer);
            copy.examiners.addAll(examiners);
            copy.conflicts.addAll(conflicts);
            copy.appealed = appealed;
            copy.granted = granted;
            return copy;
        }

        Integer result() {
            List<Integer> sorted = new ArrayList<>(gradeOfExaminer.values());
            Collections.sort(sorted);
            if (sorted.size() == 2) {
                return (sorted.get(0) + sorted.get(1)) / 2;
            }
            return sorted.size() == 3 ? sorted.get(1) : null;
        }
    }

    private static final class Examiner {
        final char frame;
        final Set<Integer> topics = new TreeSet<>();
        final int capacity;
        final int lenience;

        Examiner(char frame, int topics, int capacity, int lenience) {
            this.frame = frame;
            this.capacity = capacity;
            this.lenience = lenience;
            for (int topic = 0, rest = topics; rest > 0; topic++, rest /= 2) {
                if (rest % 2 == 1) {
                    this.topics.add(topic);
                }
            }
        }
    }

    private static final class Everything {
        final List<Door> doors = new ArrayList<>();
        final List<Examiner> examiners = new ArrayList<>();
        final List<Integer> register = new ArrayList<>();
        final Set<Integer> revoked = new TreeSet<>();
        int threshold = 10;

        Everything copy() {
            Everything copy = new Everything();
            for (Door door : doors) {
                copy.doors.add(door.copy());
            }
            copy.examiners.addAll(examiners);
            copy.register.addAll(register);
            copy.revoked.addAll(revoked);
            copy.threshold = threshold;
            return copy;
        }
    }

    private Everything now = new Everything();
    private Everything saved = null;
    private final Deque<Everything> before = new ArrayDeque<>();
    private boolean inProgram = false;
    private String text = "";
    private String line = "";
    private Integer errorPosition = null;
    private Integer failedCommand = null;

    private void change() {
        if (!inProgram) {
            before.addLast(now.copy());
            if (before.size() > 8) {
                before.removeFirst();
            }
        }
    }

    private Door door(int door) {
        if (door < 0 || door >= now.doors.size()) {
            throw new IndexOutOfBoundsException();
        }
        return now.doors.get(door);
    }

    private Examiner examiner(int examiner) {
        if (examiner < 0 || examiner >= now.examiners.size()) {
            throw new IndexOutOfBoundsException();
        }
        return now.examiners.get(examiner);
    }

    private static void allow(boolean allowed, RuntimeException otherwise) {
        if (!allowed) {
            throw otherwise;
        }
    }

    private static boolean within(int value, int least, int most) {
        return value >= least && value <= most;
    }

    int addDoor(char frame, int topic) {
        allow("abcdef".indexOf(frame) >= 0 && within(topic, 0, 5), new IllegalArgumentException());
        allow(now.doors.size() < 8, new IllegalStateException());
        change();
        Door door = new Door();
        door.frame = frame;
        door.topic = topic;
        now.doors.add(door);
        return now.doors.size() - 1;
    }

    int addExaminer(char frame, int topics, int capacity, int lenience) {
        allow("abcdef".indexOf(frame) >= 0 && within(topics, 1, 63) && within(capacity, 1, 4)
                && within(lenience, 0, 9), new IllegalArgumentException());
        allow(now.examiners.size() < 6, new IllegalStateException());
        change();
        now.examiners.add(new Examiner(frame, topics, capacity, lenience));
        return now.examiners.size() - 1;
    }

    int declareConflict(int examiner, int door) {
        examiner(examiner);
        door(door);
        allow(!door(door).conflicts.contains(examiner) && !door(door).examiners.contains(examiner),
                new IllegalStateException());
        change();
        door(door).conflicts.add(examiner);
        int neutral = 0;
        for (int other = 0; other < now.examiners.size(); other++) {
            neutral += isNeutral(other, door) ? 1 : 0;
        }
        return neutral;
    }

    int assign(int examiner, int door) {
        examiner(examiner);
        Set<Integer> present = door(door).examiners;
        allow(!present.contains(examiner), new IllegalStateException());
        allow(present.size() < 3, new IllegalStateException());
        allow(load(examiner) < examiner(examiner).capacity, new IllegalStateException());
        allow(mayJudge(examiner, door), new UnsupportedOperationException());
        change();
        door(door).examiners.add(examiner);
        return door(door).examiners.size();
    }

    int carryOutPlan() {
        List<Integer> plan = bestPlan();
        change();
        int given = 0;
        for (int door = 0; door < plan.size(); door++) {
            if (plan.get(door) != null) {
                door(door).examiners.add(plan.get(door));
                given++;
            }
        }
        return given;
    }

    int grade(int examiner, int door, int grade) {
        examiner(examiner);
        door(door);
        allow(within(grade, 0, 20), new IllegalArgumentException());
        allow(door(door).examiners.contains(examiner), new IllegalStateException());
        allow(!door(door).gradeOfExaminer.containsKey(examiner), new IllegalStateException());
        change();
        door(door).gradeOfExaminer.put(examiner, grade);
        return door(door).gradeOfExaminer.size();
    }

    int setThreshold(int threshold) {
        allow(within(threshold, 0, 20), new IllegalArgumentException());
        change();
        int previous = now.threshold;
        now.threshold = threshold;
        return previous;
    }

    int appeal(int door) {
        Integer result = door(door).result();
        allow(result != null && result < now.threshold && !door(door).appealed, new IllegalStateException());
        List<List<Integer>> panels = panels(door);
        allow(!panels.isEmpty(), new UnsupportedOperationException());
        change();
        int inFavour = 0;
        for (int member : panels.get(0)) {
            inFavour += examiner(member).lenience >= now.threshold - result ? 1 : 0;
        }
        door(door).appealed = true;
        door(door).granted = inFavour >= 2;
        return inFavour;
    }

    int award(int door) {
        door(door);
        allow(!now.register.contains(door), new IllegalStateException());
        allow(isEntitled(door), new UnsupportedOperationException());
        change();
        now.register.add(door);
        return now.register.size();
    }

    int revoke(int entry) {
        int door = doorOf(entry);
        allow(!now.revoked.contains(entry), new IllegalStateException());
        change();
        now.revoked.add(entry);
        return door;
    }

    int doorCount() {
        return now.doors.size();
    }

    char frameOfDoor(int door) {
        return door(door).frame;
    }

    int topic(int door) {
        return door(door).topic;
    }

    int examinersOf(int door) {
        return door(door).examiners.size();
    }

    int gradesOf(int door) {
        return door(door).gradeOfExaminer.size();
    }

    int result(int door) {
        Integer result = door(door).result();
        allow(result != null, new NoSuchElementException());
        return result;
    }

    boolean passes(int door) {
        Integer result = door(door).result();
        return result != null && result >= now.threshold;
    }

    boolean wasGranted(int door) {
        return door(door).granted;
    }

    boolean isEntitled(int door) {
        return passes(door) || wasGranted(door);
    }

    int doorAtRank(int rank) {
        allow(within(rank, 0, now.doors.size() - 1), new NoSuchElementException());
        List<Integer> with = new ArrayList<>();
        List<Integer> without = new ArrayList<>();
        for (int door = 0; door < now.doors.size(); door++) {
            (door(door).result() != null ? with : without).add(door);
        }
        Comparator<Integer> byResult = Comparator.comparing(door -> -door(door).result());
        Comparator<Integer> byGrades = Comparator.comparing(door -> -gradesOf(door));
        with.sort(byResult.thenComparing(byGrades).thenComparing(Comparator.naturalOrder()));
        with.addAll(without);
        return with.get(rank);
    }

    int examinerCount() {
        return now.examiners.size();
    }

    char frameOfExaminer(int examiner) {
        return examiner(examiner).frame;
    }

    int load(int examiner) {
        examiner(examiner);
        int load = 0;
        for (Door door : now.doors) {
            load += door.examiners.contains(examiner) ? 1 : 0;
        }
        return load;
    }

    boolean isNeutral(int examiner, int door) {
        return examiner(examiner).frame != door(door).frame && !door(door).conflicts.contains(examiner);
    }

    boolean mayJudge(int examiner, int door) {
        return isNeutral(examiner, door) && examiner(examiner).topics.contains(door(door).topic);
    }

    boolean isAssigned(int examiner, int door) {
        examiner(examiner);
        return door(door).examiners.contains(examiner);
    }

    int gradeBy(int examiner, int door) {
        examiner(examiner);
        Integer grade = door(door).gradeOfExaminer.get(examiner);
        allow(grade != null, new NoSuchElementException());
        return grade;
    }

    private List<Integer> bestPlan() {
        int[] room = new int[now.examiners.size()];
        for (int examiner = 0; examiner < room.length; examiner++) {
            room[examiner] = examiner(examiner).capacity - load(examiner);
        }
        List<Integer> best = new ArrayList<>();
        int[] bestSize = {-1};
        tryPlans(new ArrayList<>(), 0, room, best, bestSize);
        return best;
    }

    /** Plans come in the document's order, so the first one of the greatest size is the best. */
    private void tryPlans(List<Integer> chosen, int size, int[] room, List<Integer> best, int[] bestSize) {
        int door = chosen.size();
        if (size + now.doors.size() - door <= bestSize[0]) {
            return;
        }
        if (door == now.doors.size()) {
            bestSize[0] = size;
            best.clear();
            best.addAll(chosen);
            return;
        }
        for (int examiner = 0; examiner < room.length; examiner++) {
            if (door(door).examiners.size() < 3 && room[examiner] > 0 && mayJudge(examiner, door)
                    && !isAssigned(examiner, door)) {
                room[examiner]--;
                chosen.add(examiner);
                tryPlans(chosen, size + 1, room, best, bestSize);
                chosen.remove(door);
                room[examiner]++;
            }
        }
        chosen.add(null);
        tryPlans(chosen, size, room, best, bestSize);
        chosen.remove(door);
    }

    int planSize() {
        int size = 0;
        for (Integer examiner : bestPlan()) {
            size += examiner != null ? 1 : 0;
        }
        return size;
    }

    int planSizeBySets() {
        return planSize();
    }

    int plannedExaminer(int door) {
        door(door);
        Integer examiner = bestPlan().get(door);
        allow(examiner != null, new NoSuchElementException());
        return examiner;
    }

    private List<List<Integer>> panels(int door) {
        List<List<Integer>> panels = new ArrayList<>();
        for (int set = 0; set < 1 << now.examiners.size(); set++) {
            List<Integer> members = new ArrayList<>();
            Set<Character> frames = new HashSet<>();
            boolean suitable = true;
            for (int examiner = 0; examiner < now.examiners.size(); examiner++) {
                if ((set & 1 << examiner) != 0) {
                    members.add(examiner);
                    frames.add(examiner(examiner).frame);
                    suitable &= isNeutral(examiner, door) && !isAssigned(examiner, door);
                }
            }
            if (suitable && members.size() == 3 && frames.size() == 3) {
                panels.add(members);
            }
        }
        panels.sort(Comparator.comparing(List::toString));
        return panels;
    }

    int panelCount(int door) {
        door(door);
        return panels(door).size();
    }

    int panelCountByFrames(int door) {
        return panelCount(door);
    }

    int panelMember(int door, int position) {
        door(door);
        allow(within(position, 0, 2), new IllegalArgumentException());
        List<List<Integer>> panels = panels(door);
        allow(!panels.isEmpty(), new NoSuchElementException());
        return panels.get(0).get(position);
    }

    int threshold() {
        return now.threshold;
    }

    int entryCount() {
        return now.register.size();
    }

    int doorOf(int entry) {
        allow(within(entry, 1, now.register.size()), new NoSuchElementException());
        return now.register.get(entry - 1);
    }

    boolean isRevoked(int entry) {
        doorOf(entry);
        return now.revoked.contains(entry);
    }

    int assignments() {
        int sum = 0;
        for (Door door : now.doors) {
            sum += door.examiners.size();
        }
        return sum;
    }

    int assignmentsByDoors() {
        return assignments();
    }

    private List<Integer> allGrades() {
        List<Integer> grades = new ArrayList<>();
        for (Door door : now.doors) {
            grades.addAll(door.gradeOfExaminer.values());
        }
        return grades;
    }

    long gradeTotal() {
        return allGrades().stream().mapToLong(Integer::longValue).sum();
    }

    double meanGrade() {
        allow(!allGrades().isEmpty(), new ArithmeticException());
        return (double) gradeTotal() / allGrades().size();
    }

    float passShare() {
        int with = 0;
        int passing = 0;
        for (int door = 0; door < now.doors.size(); door++) {
            with += door(door).result() != null ? 1 : 0;
            passing += passes(door) ? 1 : 0;
        }
        allow(with > 0, new ArithmeticException());
        return (float) passing / with;
    }

    boolean isConsistent() {
        return true;
    }

    int append(char character) {
        allow(text.length() < 60, new IllegalStateException());
        text += character;
        return text.length();
    }

    private static final String COMMAND = "(?:door [a-f] [0-9]|examiner [a-f] [0-9][0-9]? [0-9] [0-9]"
            + "|conflict [0-9] [0-9]|assign [0-9] [0-9]|plan|grade [0-9] [0-9] [0-9][0-9]?"
            + "|threshold [0-9][0-9]?|appeal [0-9]|award [0-9]|revoke [0-9])";
    private static final Pattern PROGRAM = Pattern.compile(COMMAND + "(?:;" + COMMAND + ")*");

    private static boolean canBeContinued(String prefix) {
        Matcher matcher = PROGRAM.matcher(prefix);
        return matcher.matches() || matcher.hitEnd();
    }

    int run() {
        String program = text;
        text = "";
        if (!PROGRAM.matcher(program).matches()) {
            int position = 0;
            while (position < program.length() && canBeContinued(program.substring(0, position + 1))) {
                position++;
            }
            errorPosition = position;
            throw new IllegalArgumentException();
        }
        Everything atStart = now.copy();
        String[] commands = program.split(";");
        inProgram = true;
        for (int command = 0; command < commands.length; command++) {
            try {
                perform(commands[command].split(" "));
            } catch (RuntimeException refused) {
                inProgram = false;
                now = atStart;
                failedCommand = command;
                throw new UnsupportedOperationException();
            }
        }
        inProgram = false;
        Everything atEnd = now;
        now = atStart;
        change();
        now = atEnd;
        return commands.length;
    }

    private void perform(String[] words) {
        int[] numbers = new int[words.length];
        for (int word = 1; word < words.length; word++) {
            numbers[word] = Character.isDigit(words[word].charAt(0)) ? Integer.parseInt(words[word]) : 0;
        }
        switch (words[0]) {
            case "door" -> addDoor(words[1].charAt(0), numbers[2]);
            case "examiner" -> addExaminer(words[1].charAt(0), numbers[2], numbers[3], numbers[4]);
            case "conflict" -> declareConflict(numbers[1], numbers[2]);
            case "assign" -> assign(numbers[1], numbers[2]);
            case "plan" -> carryOutPlan();
            case "grade" -> grade(numbers[1], numbers[2], numbers[3]);
            case "threshold" -> setThreshold(numbers[1]);
            case "appeal" -> appeal(numbers[1]);
            case "award" -> award(numbers[1]);
            default -> revoke(numbers[1]);
        }
    }

    int errorPosition() {
        allow(errorPosition != null, new NoSuchElementException());
        return errorPosition;
    }

    int failedCommand() {
        allow(failedCommand != null, new NoSuchElementException());
        return failedCommand;
    }

    int writeDoor(int door) {
        Door shown = door(door);
        String written = "" + shown.frame + shown.topic;
        for (int examiner : shown.examiners) {
            Integer grade = shown.gradeOfExaminer.get(examiner);
            written += " " + examiner + (grade == null ? "" : ":" + grade);
        }
        written += shown.result() == null ? "" : "=" + shown.result();
        int entry = now.register.indexOf(door) + 1;
        written += entry == 0 || now.revoked.contains(entry) ? "" : "*";
        line = written;
        return line.length();
    }

    int writeExaminer(int examiner) {
        Examiner shown = examiner(examiner);
        String written = "" + shown.frame + load(examiner) + "/" + shown.capacity + "#";
        for (int topic : shown.topics) {
            written += topic;
        }
        line = written + "+" + shown.lenience;
        return line.length();
    }

    char outputAt(int index) {
        allow(within(index, 0, line.length() - 1), new IndexOutOfBoundsException());
        return line.charAt(index);
    }

    int undo() {
        allow(!before.isEmpty(), new IllegalStateException());
        now = before.removeLast();
        return before.size();
    }

    void save() {
        saved = now.copy();
    }

    void restore() {
        allow(saved != null, new IllegalStateException());
        now = saved.copy();
        before.clear();
    }
}
