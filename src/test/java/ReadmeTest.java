/** The example of README.md, line by line. */
public final class ReadmeTest {
    private static final Check CHECK = new Check("ReadmeTest");

    public static void main(String[] args) {
        SplicedTalk talk = new SplicedTalk();
        CHECK.is("say", talk.say(0, 1), 0);
        CHECK.is("cough", talk.cough(2), 1);
        CHECK.is("say", talk.say(1, 4), 2);
        CHECK.is("strainOf", talk.strainOf(0), 4);
        CHECK.is("isBroken", talk.isBroken(0), true);
        CHECK.is("costOfMending", talk.costOfMending(0), 3);
        CHECK.is("brokenAfterSplice", talk.brokenAfterSplice(0), 1);
        CHECK.is("bestSplice", talk.bestSplice(), -1);
        CHECK.is("removeCough", talk.removeCough(1), 2);
        CHECK.is("bestSplice without the cough", talk.bestSplice(), 0);
        CHECK.is("splice", talk.splice(0), 2);
        CHECK.is("brokenGaps", talk.brokenGaps(), 0);
        CHECK.is("threads", talk.threads(), 1);
        CHECK.is("patience", talk.patience(), 27);
        CHECK.is("rest", talk.rest(5), 32);
        CHECK.isThrown("speaker 6", IndexOutOfBoundsException.class, () -> talk.say(6, 0));
        CHECK.exit();
    }
}
