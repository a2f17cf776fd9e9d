/**
 * Talks made from a text of calls, and all that can be asked of one.
 *
 * <p>In a text "03" says a word of speaker 0 with topic 3, "2c" is a cough of speaker 2, "t1" ties the gap 1,
 * "s1" splices into it, "r4" removes the cough at place 4, "w60" waits 60 minutes.
 */
final class Talks {
    private Talks() {
    }

    static SplicedTalk of(String calls) {
        SplicedTalk talk = new SplicedTalk();
        for (String call : calls.trim().split(" +")) {
            if (!call.isEmpty()) {
                put(talk, call);
            }
        }
        return talk;
    }

    private static void put(SplicedTalk talk, String call) {
        int number = call.charAt(1) == 'c' ? 0 : Integer.parseInt(call.substring(1));
        switch (call.charAt(0)) {
            case 't' -> talk.tie(number);
            case 's' -> talk.splice(number);
            case 'r' -> talk.removeCough(number);
            case 'w' -> talk.rest(number);
            default -> remark(talk, call.charAt(0) - '0', call.charAt(1));
        }
    }

    private static void remark(SplicedTalk talk, int speaker, char what) {
        if (what == 'c') {
            talk.cough(speaker);
        } else {
            talk.say(speaker, what - '0');
        }
    }

    /** Calls on a new talk after which there is that much patience, 0 to 30, and still no remark. */
    static String patience(int left) {
        return "0c r0 ".repeat(30 - left);
    }

    /** n words of the speakers 0 to 5 in turn, all of topic 0. */
    static String smooth(int n) {
        StringBuilder words = new StringBuilder();
        for (int i = 0; i < n; i++) {
            words.append(i % 6).append("0 ");
        }
        return words.toString();
    }

    /** n words of two speakers in turn, any two neighbours 5 apart, so that each gap is broken. */
    static String broken(int n) {
        StringBuilder words = new StringBuilder();
        for (int i = 0; i < n; i++) {
            words.append(i % 2 == 0 ? "00 " : "15 ");
        }
        return words.toString();
    }

    static String row(SplicedTalk talk) {
        StringBuilder row = new StringBuilder();
        int word = 0;
        for (int place = 0; place < talk.remarks(); place++) {
            row.append(place == 0 ? "" : " ").append(talk.speakerAt(place));
            row.append(talk.isCough(place) ? "c" : String.valueOf(talk.topicOf(word++)));
        }
        return row.toString();
    }

    static String ties(SplicedTalk talk) {
        StringBuilder ties = new StringBuilder();
        for (int gap = 0; gap < talk.words() - 1; gap++) {
            ties.append(talk.isTied(gap) ? 't' : '-');
        }
        return ties.toString();
    }

    /** Each answer that a talk gives, but wouldBreak's: fewer than 400 calls, so that 512 are not passed. */
    static String picture(SplicedTalk talk) {
        StringBuilder told = new StringBuilder();
        int remarks = talk.remarks();
        int words = talk.words();
        int threads = talk.threads();
        told.append(remarks).append(' ').append(words).append(' ').append(talk.coughs());
        told.append(" patience ").append(talk.patience()).append(' ').append(talk.spent());
        told.append(" gaps ").append(talk.brokenGaps()).append(' ').append(talk.politeGaps());
        told.append(" threads ").append(threads).append(' ').append(talk.longestThread());
        told.append(" cost ").append(talk.costOfAll()).append(" best ").append(talk.bestSplice());
        told.append(" mean ").append(talk.meanStrain()).append(" digest ").append(talk.digest());
        for (int place = 0; place < remarks; place++) {
            told.append(talk.isCough(place) ? " c" : " w").append(talk.speakerAt(place));
        }
        for (int word = 0; word < words; word++) {
            told.append(" word ").append(talk.placeOf(word)).append(' ').append(talk.topicOf(word));
            told.append(' ').append(talk.threadOf(word));
        }
        for (int gap = 0; gap < words - 1; gap++) {
            told.append(" gap ").append(gapPicture(talk, gap));
        }
        for (int thread = 0; thread < threads; thread++) {
            told.append(" thread ").append(talk.lengthOf(thread)).append(' ').append(talk.topicsIn(thread));
        }
        for (int speaker = 0; speaker < 6; speaker++) {
            told.append(" of ").append(talk.wordsOf(speaker)).append(' ').append(talk.threadsOf(speaker));
        }
        return told.toString();
    }

    private static String gapPicture(SplicedTalk talk, int gap) {
        boolean tied = talk.isTied(gap);
        StringBuilder told = new StringBuilder();
        told.append(talk.coughsIn(gap)).append(' ').append(talk.strainOf(gap)).append(tied ? " tied" : "");
        told.append(talk.isSmooth(gap) ? " smooth" : "").append(talk.isPolite(gap) ? " polite" : "");
        told.append(talk.isBroken(gap) ? " broken" : "").append(' ').append(talk.costOfMending(gap));
        told.append(' ').append(tied ? -1 : talk.brokenAfterSplice(gap));
        return told.toString();
    }

    /** What a talk answers to further calls: shows also what no question tells, such as a tie ahead of no word. */
    static String sequel(SplicedTalk talk) {
        Object[] answers = {
            Check.answerOf(() -> talk.rest(1)),
            Check.answerOf(() -> talk.cough(5)),
            Check.answerOf(() -> talk.say(5, 9)),
            Check.answerOf(() -> talk.say(1, 4)),
            talk.digest(),
        };
        return java.util.Arrays.toString(answers);
    }
}
