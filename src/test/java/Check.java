import java.util.TreeSet;

/** Counts calls whose answers are not the ones that are due, and prints them. */
final class Check {
    interface Call {
        Object answer();
    }

    private final String name;
    private final TreeSet<String> told = new TreeSet<>();
    private String sentence = "";
    private int calls = 0;
    private int callsBefore = 0;
    private int wrong = 0;

    Check(String name) {
        this.name = name;
    }

    /** Begins the test of a sentence of the document; each has a test of its own, and no test is empty. */
    void says(String place, String text) {
        closeSentence();
        sentence = place + " \"" + text + "\" ";
        if (!told.add(sentence)) {
            wrong++;
            System.out.println(name + ": " + sentence + "has two tests");
        }
        callsBefore = calls;
    }

    private void closeSentence() {
        if (!sentence.isEmpty() && calls == callsBefore) {
            wrong++;
            System.out.println(name + ": " + sentence + "has no test");
        }
    }

    void due(String call, Object want, Call code) {
        calls++;
        Object got = answerOf(code);
        if (!want.equals(got)) {
            wrong++;
            System.out.println(name + ": " + sentence + call + " answered " + got + ", due is " + want);
        }
    }

    /** What a call answers, or "throws." and the name of the exception that it throws. */
    static Object answerOf(Call code) {
        try {
            return code.answer();
        } catch (RuntimeException thrown) {
            return "throws." + thrown.getClass().getSimpleName();
        }
    }

    void end() {
        closeSentence();
        String sentences = told.isEmpty() ? "" : told.size() + " sentences, ";
        System.out.println(name + ": " + sentences + calls + " answers looked at, " + wrong + " wrong");
        if (wrong != 0 || calls == 0) {
            System.exit(1);
        }
    }
}
