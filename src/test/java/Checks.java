/** Counts and prints what is not as due. */
final class Checks {
    /** A call of the class under test. */
    interface Call {
        long answer();
    }

    private int made = 0;
    private int wrong = 0;
    private String sentence = "";

    /** The checks that follow are of this sentence of the document. */
    void under(String words) {
        sentence = "\"" + words + "\": ";
    }

    void same(String what, long got, long want) {
        made++;
        if (got != want) {
            tell(what + " answered " + got + ", due is " + want);
        }
    }

    void same(String what, String got, String want) {
        made++;
        if (!got.equals(want)) {
            tell(what + " gave " + got + ", due is " + want);
        }
    }

    void refuses(String what, Class<? extends RuntimeException> due, Call call) {
        same(what, outcome(call), "throws." + due.getSimpleName());
    }

    /** The answer as a text, or the exact class of what was thrown. */
    static String outcome(Call call) {
        try {
            return Long.toString(call.answer());
        } catch (RuntimeException e) {
            String text = String.valueOf(e.getMessage());
            boolean byMachine = text.startsWith("Index ") || text.startsWith("/ by zero");
            return (byMachine ? "the machine throws." : "throws.") + e.getClass().getSimpleName();
        }
    }

    private void tell(String text) {
        wrong++;
        if (wrong <= 50) {
            System.out.println(sentence + text);
        }
    }

    void finish() {
        System.out.println(made + " checks, " + wrong + " wrong");
        if (wrong != 0 || made == 0) {
            System.exit(1);
        }
    }
}
