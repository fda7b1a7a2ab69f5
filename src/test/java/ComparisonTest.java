import java.lang.reflect.InvocationTargetException;
import java.lang.reflect.Method;
import java.util.ArrayList;
import java.util.Arrays;
import java.util.Comparator;
import java.util.List;
import java.util.Map;
import java.util.TreeMap;

/**
 * Makes the same calls on a DoorAcademy and on a ReferenceAcademy, each pair for at most 512 calls,
 * and compares every answer and every exception. The calls come from a sequence of numbers that is
 * always the same.
 */
public final class ComparisonTest {

    private static final int RUNS = 5000;
    private static final int CALLS = 512;
    private static final int[] EXTREMES = {-1, 8, 6, Integer.MIN_VALUE, Integer.MAX_VALUE, 9, 64, 32, -2147483616};
    private static final String[] CHANGES = {"addDoor", "addExaminer", "declareConflict", "assign", "assign",
        "assign", "assign", "carryOutPlan", "grade", "grade", "grade", "grade", "grade", "grade", "setThreshold", "appeal", "appeal", "award", "award",
        "revoke"};
    private static final String[] WORDS = {"door ", "examiner ", "conflict ", "assign ", "plan", "grade ",
        "threshold ", "appeal ", "award ", "revoke "};

    private static final String[] TEXTS = {"door a 0;door f 5", "examiner b 5 1 2", "examiner c 63 4 9",
        "conflict 0 1", "assign 2 3;plan", "plan;award 1", "grade 0 0 5", "grade 5 7 20", "threshold 5",
        "threshold 12;appeal 0", "award 2", "revoke 1;revoke 2"};

    private final Checks checks;
    private final Map<String, Method> facesOfProgram = new TreeMap<>();
    private final Map<String, Method> facesOfReference = new TreeMap<>();
    private final List<String> queries = new ArrayList<>();
    private final Map<String, Integer> outcomes = new TreeMap<>();
    private long state;

    private DoorAcademy program;
    private ReferenceAcademy reference;
    private List<String> history;
    private int callsLeft;
    private int wildness;
    private int steadiness;

    private ComparisonTest(Checks checks) {
        this.checks = checks;
        Method[] methods = DoorAcademy.class.getMethods();
        Arrays.sort(methods, Comparator.comparing(Method::getName));
        for (Method method : methods) {
            if (method.getDeclaringClass() == DoorAcademy.class) {
                facesOfProgram.put(method.getName(), method);
                facesOfReference.put(method.getName(), sameOf(method));
                if (!List.of(CHANGES).contains(method.getName()) && !method.getName().equals("append")
                        && !method.getName().equals("run") && !method.getName().equals("save")
                        && !method.getName().equals("restore") && !method.getName().equals("undo")) {
                    queries.add(method.getName());
                }
            }
        }
    }

    private static Method sameOf(Method method) {
        try {
            return ReferenceAcademy.class.getDeclaredMethod(method.getName(), method.getParameterTypes());
        } catch (NoSuchMethodException missing) {
            throw new IllegalStateException(missing);
        }
    }

    public static void main(String[] args) {
        Checks checks = new Checks("ComparisonTest");
        ComparisonTest test = new ComparisonTest(checks);
        for (int run = 0; run < RUNS; run++) {
            test.compareOneRun(run);
        }
        for (String text : TEXTS) {
            test.compareSpoiltTexts(text);
        }
        if (args.length > 0) {
            test.outcomes.forEach((what, times) -> System.out.println(times + " " + what));
        }
        checks.end();
    }

    private int below(int bound) {
        state = state * 6364136223846793005L + 1442695040888963407L;
        return (int) ((state >>> 33) % bound);
    }

    private boolean oneIn(int times) {
        return below(times) == 0;
    }

    private void compareOneRun(int run) {
        state = run;
        program = new DoorAcademy();
        reference = new ReferenceAcademy();
        history = new ArrayList<>();
        callsLeft = CALLS;
        wildness = 10 + 30 * below(4);
        steadiness = 1 + below(6);
        int doors = below(9);
        int examiners = below(7);
        while (callsLeft > 0) {
            if (reference.doorCount() < doors && oneIn(3)) {
                call("addDoor");
            } else if (reference.examinerCount() < examiners && oneIn(3)) {
                call("addExaminer");
            } else {
                anyStep();
            }
        }
    }

    private void anyStep() {
        int choice = below(100);
        if (choice < 50) {
            call(CHANGES[below(CHANGES.length)]);
        } else if (choice < 95) {
            call(queries.get(below(queries.size())));
        } else if (choice < 96) {
            runProgram();
        } else if (choice < 97) {
            writeLine();
        } else if (oneIn(steadiness)) {
            call(oneIn(6) ? "restore" : oneIn(6) ? "save" : "undo");
        }
    }

    /** Mostly looks for arguments with which the call has a chance to change something. */
    private void call(String name) {
        Object[] arguments = anyArguments(name);
        boolean aimed = !oneIn(4);
        for (int tries = 0; aimed && tries < 40 && !isPromising(name, arguments); tries++) {
            arguments = anyArguments(name);
        }
        make(name, arguments);
    }

    private boolean isPromising(String name, Object[] arguments) {
        Object promising = Checks.outcome(() -> {
            int first = arguments.length > 0 && arguments[0] instanceof Integer number ? number : 0;
            int second = arguments.length > 1 && arguments[1] instanceof Integer number ? number : 0;
            return switch (name) {
                case "assign" -> reference.mayJudge(first, second) && !reference.isAssigned(first, second);
                case "grade" -> reference.isAssigned(first, second) && !isGraded(first, second);
                case "gradeBy" -> isGraded(first, second);
                case "appeal" -> reference.result(first) < reference.threshold();
                case "result" -> reference.result(first) >= 0;
                case "award" -> reference.isEntitled(first);
                case "plannedExaminer" -> reference.plannedExaminer(first) >= 0;
                case "panelMember" -> reference.panelCount(first) > 0;
                default -> true;
            };
        });
        return promising.equals(true);
    }

    private boolean isGraded(int examiner, int door) {
        return Checks.outcome(() -> reference.gradeBy(examiner, door)) instanceof Integer;
    }

    private Object[] anyArguments(String name) {
        Class<?>[] types = facesOfProgram.get(name).getParameterTypes();
        Object[] arguments = new Object[types.length];
        for (int position = 0; position < types.length; position++) {
            arguments[position] = types[position] == char.class
                    ? (Object) anyFrame()
                    : (Object) (oneIn(wildness) ? EXTREMES[below(EXTREMES.length)] : usual(name, position));
        }
        return arguments;
    }

    private char anyFrame() {
        return oneIn(wildness) ? (oneIn(2) ? '`' : 'g') : (char) ('a' + below(6));
    }

    private int usual(String name, int position) {
        switch (name) {
            case "addDoor":
                return below(6);
            case "addExaminer":
                return position == 1 ? 1 + below(63) | 1 + below(63) : position == 2 ? 1 + below(4) : below(10);
            case "grade":
                return position == 2 ? below(21) : index(position == 0);
            case "setThreshold":
                return below(21);
            case "panelMember":
                return position == 1 ? below(3) : index(false);
            case "revoke", "doorOf", "isRevoked":
                return 1 + below(Math.max(1, reference.entryCount()));
            case "outputAt":
                return below(20);
            default:
                boolean pair = facesOfProgram.get(name).getParameterCount() == 2;
                return index(pair && position == 0 || name.equals("load") || name.endsWith("Examiner"));
        }
    }

    private int index(boolean ofExaminer) {
        return below(Math.max(1, ofExaminer ? reference.examinerCount() : reference.doorCount()));
    }

    private void make(String name, Object... arguments) {
        if (callsLeft == 0) {
            return;
        }
        callsLeft--;
        history.add(name + Arrays.toString(arguments));
        Object want = Checks.outcome(() -> invoke(facesOfReference.get(name), reference, arguments));
        Object got = Checks.outcome(() -> invoke(facesOfProgram.get(name), program, arguments));
        outcomes.merge(name + " " + (want instanceof String ? want : "answers"), 1, Integer::sum);
        checks.due(got == null && want == null || got != null && got.equals(want) ? name : history.toString(), got, want);
    }

    private static Object invoke(Method method, Object object, Object[] arguments) {
        try {
            return method.invoke(object, arguments);
        } catch (InvocationTargetException thrown) {
            throw (RuntimeException) thrown.getCause();
        } catch (IllegalAccessException refused) {
            throw new Error(refused);
        }
    }

    /** Every character of the text in turn becomes every other one, and the text ends behind it or goes on. */
    private void compareSpoiltTexts(String text) {
        for (int place = 0; place < text.length(); place++) {
            for (int character = 0; character < 260; character++) {
                String begun = text.substring(0, place) + (char) character;
                compareText(begun);
                compareText(begun + text.substring(place + 1));
                compareText(begun + text.substring(place));
            }
        }
    }

    private void compareText(String text) {
        program = new DoorAcademy();
        reference = new ReferenceAcademy();
        history = new ArrayList<>();
        callsLeft = CALLS;
        for (int index = 0; index < text.length(); index++) {
            program.append(text.charAt(index));
            reference.append(text.charAt(index));
            history.add("append " + (int) text.charAt(index));
        }
        make("run");
        make("errorPosition");
        make("failedCommand");
    }

    private void writeLine() {
        String name = oneIn(2) ? "writeDoor" : "writeExaminer";
        call(name);
        for (int index = 0; index < 22; index++) {
            make("outputAt", index);
        }
    }

    private void runProgram() {
        StringBuilder text = new StringBuilder(anyCommand());
        while (!oneIn(3)) {
            text.append(';').append(anyCommand());
        }
        if (oneIn(2)) {
            spoil(text);
        }
        for (int index = 0; index < text.length() && index < 61; index++) {
            make("append", text.charAt(index));
        }
        make("run");
        make("errorPosition");
        make("failedCommand");
    }

    private void spoil(StringBuilder text) {
        int place = below(text.length());
        switch (below(4)) {
            case 0 -> text.setLength(place);
            case 1 -> text.deleteCharAt(place);
            case 2 -> text.setCharAt(place, "abdegort 0159;\0\u00e9\u4e00".charAt(below(17)));
            default -> text.insert(place, "abdegort 0159;".charAt(below(14)));
        }
    }

    private String anyCommand() {
        int kind = below(WORDS.length);
        String word = WORDS[kind];
        switch (kind) {
            case 0:
                return word + (char) ('a' + below(6)) + " " + below(oneIn(5) ? 10 : 6);
            case 1:
                return word + (char) ('a' + below(6)) + " " + below(oneIn(9) ? 100 : 64) + " " + (1 + below(4)) + " "
                        + below(10);
            case 2:
            case 3:
                return word + index(true) + " " + index(false);
            case 4:
                return word;
            case 5:
                return word + index(true) + " " + index(false) + " " + (oneIn(5) ? "0" + below(10) : "" + below(22));
            case 6:
                return word + (oneIn(5) ? "0" + below(10) : "" + below(23));
            case 7:
            case 8:
                return word + index(false);
            default:
                return word + (1 + below(4));
        }
    }
}
