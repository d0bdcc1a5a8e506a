/** Counts and prints the answers of one test that are not the ones that are due. */
final class Check {
    interface Call {
        Object answer();
    }

    private final String title;
    private int made;
    private int wrong;

    Check(String title) {
        this.title = title;
    }

    void same(String what, Object due, Object got) {
        made++;
        if (!due.equals(got)) {
            report(what, due, got);
        }
    }

    void fails(String what, Class<? extends RuntimeException> due, Call call) {
        made++;
        String got = answerOf(call);
        if (!got.equals("throws." + due.getSimpleName())) {
            report(what, "throws." + due.getSimpleName(), got);
        }
    }

    void isTrue(String what, boolean got) {
        same(what, true, got);
    }

    void isFalse(String what, boolean got) {
        same(what, false, got);
    }

    /** The answer as a text; the exact class of an exception counts, so that one of the machine is told apart. */
    static String answerOf(Call call) {
        try {
            return String.valueOf(call.answer());
        } catch (RuntimeException e) {
            return "throws." + e.getClass().getSimpleName();
        }
    }

    void end() {
        System.out.println(title + ": " + made + " checks, " + wrong + " wrong");
        if (wrong > 0) {
            System.exit(1);
        }
    }

    private void report(String what, Object due, Object got) {
        wrong++;
        if (wrong <= 20) {
            System.out.println(title + ": " + what + " answered " + got + ", due is " + due);
        }
    }
}
