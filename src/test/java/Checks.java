import java.util.Objects;

/** Counts and prints the answers that are not the ones that are due. */
final class Checks {

    interface Call {
        Object answer();
    }

    private final String title;
    private int made = 0;
    private int wrong = 0;

    Checks(String title) {
        this.title = title;
    }

    void due(String what, Object got, Object want) {
        made++;
        if (!Objects.equals(got, want)) {
            wrong++;
            System.out.println(title + ": " + what + " answered " + got + ", due is " + want);
        }
    }

    void refused(String what, Class<? extends RuntimeException> want, Call call) {
        due(what, outcome(call), "throws " + want.getSimpleName());
    }

    /** The answer of the call, or what it throws. */
    static Object outcome(Call call) {
        try {
            return call.answer();
        } catch (RuntimeException thrown) {
            return "throws " + thrown.getClass().getSimpleName();
        }
    }

    void end() {
        System.out.println(title + ": " + made + " answers, " + wrong + " of them wrong");
        if (wrong != 0 || made == 0) {
            System.exit(1);
        }
    }
}
