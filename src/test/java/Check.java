/** Counts what is not as due; every test of the project ends by exit(). */
final class Check {
    private final String test;
    private int wrong;
    private int checked;

    Check(String test) {
        this.test = test;
    }

    /** A call that may throw. */
    interface Call {
        Object answer();
    }

    /** A call on a talk, which may throw. */
    interface Use {
        Object on(SplicedTalk talk);
    }

    void is(String what, Object got, Object due) {
        checked++;
        if (!due.equals(got)) {
            wrong++;
            System.out.println(test + ": " + what + " answered " + got + ", due is " + due);
        }
    }

    /** The answer, or the exception as "throws.Name", so that both compare alike. */
    static Object answerOf(Call call) {
        try {
            return call.answer();
        } catch (RuntimeException e) {
            return "throws." + e.getClass().getSimpleName();
        }
    }

    void isThrown(String what, Class<? extends RuntimeException> due, Call call) {
        is(what, answerOf(call), "throws." + due.getSimpleName());
    }

    /** The call throws, and nothing that can be asked of the talk is another thing then. */
    void refuses(SplicedTalk talk, String what, Class<? extends RuntimeException> due, Call call) {
        long before = talk.digest();
        isThrown(what, due, call);
        is(what + " and the digest then", talk.digest(), before);
    }

    /**
     * The call on the talk that the calls have made throws just that exception, and the talk is afterwards as
     * a twin on which it was never called, in all that can be asked and in what comes then.
     */
    void refuses(String what, Class<? extends RuntimeException> due, String calls, Use use) {
        SplicedTalk talk = Talks.of(calls);
        isThrown(what, due, () -> use.on(talk));
        isAsTwin(what, talk, calls);
    }

    /** The call on the talk that the calls have made answers that, and changes nothing. */
    void asks(String what, Object due, String calls, Use use) {
        SplicedTalk talk = Talks.of(calls);
        is(what, answerOf(() -> use.on(talk)), due);
        isAsTwin(what, talk, calls);
    }

    /** The call on the talk that the calls have made answers that, whatever it changes. */
    void does(String what, Object due, String calls, Use use) {
        SplicedTalk talk = Talks.of(calls);
        is(what, answerOf(() -> use.on(talk)), due);
    }

    private void isAsTwin(String what, SplicedTalk talk, String calls) {
        SplicedTalk twin = Talks.of(calls);
        is(what + ", the talk then", Talks.picture(talk), Talks.picture(twin));
        is(what + ", what comes then", Talks.sequel(talk), Talks.sequel(twin));
    }

    void exit() {
        System.out.println(test + ": " + checked + " checked, " + wrong + " not as due");
        if (wrong != 0) {
            System.exit(1);
        }
    }
}
