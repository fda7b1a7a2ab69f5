import java.io.IOException;
import java.nio.file.Files;
import java.nio.file.Path;
import java.util.LinkedHashMap;
import java.util.List;
import java.util.Map;
import java.util.Set;
import java.util.TreeSet;

/**
 * Checks answers sentence by sentence, and compares the sentences that have a test with those of the
 * document that name a boundary case, so that none is forgotten and none is misquoted.
 */
final class Sentences {

    /** A sentence with a digit names a boundary, and so does one with one of these. */
    private static final List<String> SIGNS_OF_A_BOUNDARY = List.of("Throws ", "Returns true if", "once", "never",
            "less", "first", "last", "every case", "ascending", "as possible", "no load exceeds", "best plan is",
            "no door can be added", "loads of all", "sum of all", "different frames", "in the set of",
            "without doors", "without examiners", "if it passes", "stays", "replacing", "members in favour",
            "after the call", "previous", "that get an examiner", "same number", "in order", "none", "any character",
            "initially", "most recent", "can still be", "changing methods", "not a changing call", "Afterwards",
            "whole state", "nothing changes", "commands call", "error position of a text",
            "Returns the number of commands", "program = ", "command = ", "| \"plan\"", "frame   = ", "number  = ");

    private final Checks checks = new Checks("BoundariesTest");
    private final Map<String, Integer> answersOf = new LinkedHashMap<>();
    private String current = "";

    /** From here on the checks are those of a sentence under the heading of a promise. */
    void ofPromise(int promise, String sentence) {
        begin("Promise " + promise, sentence);
    }

    void ofTerms(String sentence) {
        begin("Terms", sentence);
    }

    void begin(String place, String sentence) {
        current = place + " | " + sentence;
        answersOf.putIfAbsent(current, 0);
    }

    void due(String what, Object got, Object want) {
        answersOf.merge(current, 1, Integer::sum);
        checks.due(current + " [" + what + "]", got, want);
    }

    void refused(String what, Class<? extends RuntimeException> want, Checks.Call call) {
        due(what, Checks.outcome(call), "throws " + want.getSimpleName());
    }

    /** The call is refused, and the academy goes on answering as one on which it was never made. */
    void refusedWithoutTrace(String what, Class<? extends RuntimeException> want, Twins.Setup setup, Twins.On call) {
        refused(what, want, () -> call.answer(setup.make()));
        due(what + ", then", Twins.afterCall(setup, academy -> Checks.outcome(() -> call.answer(academy))),
                Twins.NO_DIFFERENCE);
    }

    void end(Path document) throws IOException {
        Set<String> inDocument = new TreeSet<>();
        Set<String> withBoundary = new TreeSet<>();
        String place = "";
        for (String line : Files.readAllLines(document)) {
            if (line.startsWith("## ")) {
                place = line.substring(3).split(":")[0];
            } else {
                for (String sentence : sentencesOf(line.strip())) {
                    inDocument.add(place + " | " + sentence);
                    if (namesBoundary(place, sentence)) {
                        withBoundary.add(place + " | " + sentence);
                    }
                }
            }
        }
        for (String sentence : withBoundary) {
            checks.due(sentence + " [has a test]", answersOf.containsKey(sentence), true);
        }
        answersOf.forEach((sentence, answers) -> {
            checks.due(sentence + " [stands in the document]", inDocument.contains(sentence), true);
            checks.due(sentence + " [has no answers]", answers == 0, false);
        });
        checks.end();
    }

    private static String[] sentencesOf(String line) {
        // What a method does stands behind its signature in the same line.
        boolean isSignature = line.startsWith("`") && line.contains("`: ");
        return (isSignature ? line.substring(line.indexOf("`: ") + 3) : line).split("(?<=\\.) (?=[A-Z])");
    }

    private static boolean namesBoundary(String place, String sentence) {
        if (!place.equals("Terms") && !place.startsWith("Promise ") && !place.equals("What it is")) {
            return false;
        }
        return sentence.matches(".*[0-9].*") || SIGNS_OF_A_BOUNDARY.stream().anyMatch(sentence::contains);
    }
}
