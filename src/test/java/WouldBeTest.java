/** Promises 32 to 36: what a talk says of a repair, beside what comes of it on a twin, for every talk of two words. */
public final class WouldBeTest {
    private static final Check CHECK = new Check("WouldBeTest");
    private static final int MOST_COUGHS = 6;

    public static void main(String[] args) {
        for (int topics = 0; topics < 100; topics++) {
            for (int second = 0; second < 2; second++) {
                for (int coughs = 0; coughs <= MOST_COUGHS; coughs++) {
                    String ahead = "0" + topics / 10 + " " + "2c ".repeat(coughs);
                    saysSo(ahead, second, topics % 10);
                    String two = ahead + second + topics % 10;
                    costsSo(two, coughs);
                    breaksSo(two);
                    bestSo(two);
                    bestSo(two + " t0");
                    // a word at either side, so that the gap is not the only one
                    bestSo("35 " + two);
                    bestSo(two + " 47");
                }
            }
        }
        CHECK.exit();
    }

    /** 36 beside say. */
    private static void saysSo(String ahead, int speaker, int topic) {
        boolean told = Talks.of(ahead).wouldBreak(speaker, topic);
        CHECK.is("36 " + ahead + speaker + topic, told, Talks.of(ahead + speaker + topic).isBroken(0));
    }

    /** 32 and 33 beside tie and removeCough. */
    private static void costsSo(String two, int coughs) {
        int least = 3;
        String removed = "";
        for (int cost = 0; cost <= coughs; cost++) {
            if (!Talks.of(two + removed).isBroken(0)) {
                least = Math.min(least, cost);
            }
            removed += " r1";
        }
        CHECK.is("32 " + two + " tied", Talks.of(two + " t0").isBroken(0), false);
        CHECK.is("32 " + two, Talks.of(two).costOfMending(0), least);
        CHECK.is("33 " + two, Talks.of(two).costOfAll(), least);
    }

    /** 34 beside splice. */
    private static void breaksSo(String two) {
        CHECK.is("34 " + two, Talks.of(two).brokenAfterSplice(0), Talks.of(two + " s0").brokenGaps());
    }

    /** 35 beside splice. */
    private static void bestSo(String calls) {
        SplicedTalk talk = Talks.of(calls);
        int fewest = talk.brokenGaps();
        int best = -1;
        for (int gap = 0; gap < talk.words() - 1; gap++) {
            int then = talk.isTied(gap) ? fewest : Talks.of(calls + " s" + gap).brokenGaps();
            if (then < fewest) {
                fewest = then;
                best = gap;
            }
        }
        CHECK.is("35 " + calls, talk.bestSplice(), best);
    }
}
