/** Counts what is not as due; every test of the project ends by exit(). */
final class Check {
    private final String test;
    private int wrong;
    private int checked;

    Check(String test) {
        this.test = test;
    }

    /** A call that may throw. */
    interface Call {
        Object answer();
    }

    void is(String what, Object got, Object due) {
        checked++;
        if (!due.equals(got)) {
            wrong++;
            System.out.println(test + ": " + what + " answered " + got + ", due is " + due);
        }
    }

    /** The answer, or the exception as "throws.Name", so that both compare alike. */
    static Object answerOf(Call call) {
        try {
            return call.answer();
        } catch (RuntimeException e) {
            return "throws." + e.getClass().getSimpleName();
        }
    }

    void isThrown(String what, Class<? extends RuntimeException> due, Call call) {
        is(what, answerOf(call), "throws." + due.getSimpleName());
    }

    /** The call throws, and nothing that can be asked of the talk is another thing then. */
    void refuses(SplicedTalk talk, String what, Class<? extends RuntimeException> due, Call call) {
        long before = talk.digest();
        isThrown(what, due, call);
        is(what + " and the digest then", talk.digest(), before);
    }

    void exit() {
        System.out.println(test + ": " + checked + " checked, " + wrong + " not as due");
        if (wrong != 0) {
            System.exit(1);
        }
    }
}
