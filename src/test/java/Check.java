/** Counts calls whose answers are not the ones that are due, and prints them. */
final class Check {
    interface Call {
        Object answer();
    }

    private final String name;
    private int calls = 0;
    private int wrong = 0;

    Check(String name) {
        this.name = name;
    }

    void due(String call, Object want, Call code) {
        calls++;
        Object got = answerOf(code);
        if (!got.equals(want)) {
            wrong++;
            System.out.println(name + ": " + call + " answered " + got + ", due is " + want);
        }
    }

    /** What a call answers, or "throws." and the name of the exception that it throws. */
    static Object answerOf(Call code) {
        try {
            return code.answer();
        } catch (RuntimeException thrown) {
            return "throws." + thrown.getClass().getSimpleName();
        }
    }

    void end() {
        System.out.println(name + ": " + calls + " answers looked at, " + wrong + " wrong");
        if (wrong != 0 || calls == 0) {
            System.exit(1);
        }
    }
}
