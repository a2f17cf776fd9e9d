/** At least one test for each promise of ../shared/DOC.md, by its number. */
public final class PromiseTest {
    private static final Check CHECK = new Check("PromiseTest");
    private static final Class<IndexOutOfBoundsException> INDEX = IndexOutOfBoundsException.class;
    private static final Class<IllegalArgumentException> ARGUMENT = IllegalArgumentException.class;
    private static final Class<IllegalStateException> STATE = IllegalStateException.class;
    private static final int[] NO_SPEAKERS = {-1, 6, Integer.MIN_VALUE, Integer.MAX_VALUE};
    private static final int[] NO_TOPICS = {-1, 10, Integer.MIN_VALUE, Integer.MAX_VALUE};

    public static void main(String[] args) {
        newObject();
        sayAndCough();
        removeCough();
        tie();
        splice();
        spliceTopics();
        spliceRefusals();
        rest();
        whatThereIs();
        gaps();
        kindsOfGaps();
        threads();
        mending();
        brokenAfterSplice();
        bestSplice();
        wouldBreak();
        meanStrain();
        digest();
        noSuchIndex();
        CHECK.exit();
    }

    private static SplicedTalk fullTalk() {
        SplicedTalk talk = new SplicedTalk();
        for (int i = 0; i < 24; i++) {
            talk.say(i % 6, i % 10);
        }
        return talk;
    }

    /** Ties and so spends 3 patience, n times. */
    private static void tieFirst(SplicedTalk talk, int n) {
        for (int gap = 0; gap < n; gap++) {
            talk.tie(gap);
        }
    }

    // Promise 1, and 8 to 12, 24 to 26, 29, 33, 35, 37 without remarks
    private static void newObject() {
        SplicedTalk x = new SplicedTalk();
        CHECK.is("1 remarks", x.remarks(), 0);
        CHECK.is("1 words", x.words(), 0);
        CHECK.is("1 coughs", x.coughs(), 0);
        CHECK.is("1 patience", x.patience(), 30);
        CHECK.is("1 spent", x.spent(), 0);
        CHECK.is("24 none", x.brokenGaps(), 0);
        CHECK.is("25 none", x.politeGaps(), 0);
        CHECK.is("26 none", x.threads(), 0);
        CHECK.is("29 none", x.longestThread(), -1);
        CHECK.is("33 none", x.costOfAll(), 0);
        CHECK.is("35 none", x.bestSplice(), -1);
        CHECK.is("37 none", x.meanStrain(), 0.0);
        for (int speaker = 0; speaker < 6; speaker++) {
            CHECK.is("17 none", x.wordsOf(speaker), 0);
            CHECK.is("30 none", x.threadsOf(speaker), 0);
        }
        x.say(0, 0);
        CHECK.is("1 objects are apart", new SplicedTalk().remarks(), 0);
    }

    // Promises 2 and 3
    private static void sayAndCough() {
        SplicedTalk x = new SplicedTalk();
        CHECK.is("3 first", x.cough(5), 0);
        CHECK.is("2 second", x.say(0, 9), 1);
        CHECK.is("2 third", x.say(5, 0), 2);
        CHECK.is("3 fourth", x.cough(0), 3);
        CHECK.is("2 3 row", Talks.row(x), "5c 09 50 0c");
        for (int bad : NO_SPEAKERS) {
            CHECK.refuses(x, "2 speaker " + bad, INDEX, () -> x.say(bad, 0));
            CHECK.refuses(x, "2 speaker and topic " + bad, INDEX, () -> x.say(bad, -1));
            CHECK.refuses(x, "3 speaker " + bad, INDEX, () -> x.cough(bad));
        }
        for (int bad : NO_TOPICS) {
            CHECK.refuses(x, "2 topic " + bad, ARGUMENT, () -> x.say(0, bad));
        }
        SplicedTalk full = fullTalk();
        CHECK.is("2 24 remarks", full.remarks(), 24);
        CHECK.refuses(full, "2 full", STATE, () -> full.say(0, 0));
        CHECK.refuses(full, "2 full, topic", ARGUMENT, () -> full.say(0, 10));
        CHECK.refuses(full, "2 full, speaker, topic", INDEX, () -> full.say(6, 10));
        CHECK.refuses(full, "3 full", STATE, () -> full.cough(0));
        CHECK.refuses(full, "3 full, speaker", INDEX, () -> full.cough(-1));

        SplicedTalk tied = Talks.of("00 05 0c");
        tied.tie(0);
        tied.removeCough(2);
        tied.say(1, 5);
        CHECK.is("2 the gap ahead is not tied", Talks.ties(tied), "t-");
    }

    // Promise 4
    private static void removeCough() {
        SplicedTalk x = Talks.of("0c 13 2c 3c 48 5c");
        x.tie(0);
        CHECK.is("4 middle", x.removeCough(2), 5);
        CHECK.is("4 row", Talks.row(x), "0c 13 3c 48 5c");
        CHECK.is("4 patience", x.patience(), 26);
        CHECK.is("4 spent", x.spent(), 4);
        CHECK.is("4 first", x.removeCough(0), 4);
        CHECK.is("4 the tie moves along", Talks.ties(x), "t");
        CHECK.is("4 last", x.removeCough(3), 3);
        CHECK.is("4 row then", Talks.row(x), "13 3c 48");
        CHECK.refuses(x, "4 word", STATE, () -> x.removeCough(0));
        for (int bad : new int[] {-1, 3, 4, Integer.MIN_VALUE, Integer.MAX_VALUE}) {
            CHECK.refuses(x, "4 place " + bad, INDEX, () -> x.removeCough(bad));
        }

        SplicedTalk poor = Talks.of("00 00 00 00 00 00 00 00 00 00 00 00 0c 1c");
        tieFirst(poor, 9);
        poor.splice(10);
        CHECK.is("4 last patience", poor.patience(), 1);
        CHECK.is("4 for all there is", poor.removeCough(13), 14);
        CHECK.is("4 no patience", poor.patience(), 0);
        CHECK.refuses(poor, "4 too dear", STATE, () -> poor.removeCough(13));
        CHECK.refuses(poor, "4 too dear, no place", INDEX, () -> poor.removeCough(14));
        poor.rest(1);
        CHECK.is("4 after a rest", poor.removeCough(13), 13);
    }

    // Promise 5
    private static void tie() {
        SplicedTalk x = Talks.of("00 15 2c 30 45");
        CHECK.is("5 before", x.threads(), 4);
        CHECK.is("5 middle", x.tie(1), 3);
        CHECK.is("5 ties", Talks.ties(x), "-t-");
        CHECK.is("5 patience", x.patience(), 27);
        CHECK.is("5 spent", x.spent(), 3);
        CHECK.is("5 first", x.tie(0), 2);
        CHECK.is("5 last", x.tie(2), 1);
        CHECK.refuses(x, "5 again", STATE, () -> x.tie(1));
        for (int bad : new int[] {-1, 3, Integer.MIN_VALUE, Integer.MAX_VALUE}) {
            CHECK.refuses(x, "5 gap " + bad, INDEX, () -> x.tie(bad));
        }
        SplicedTalk smooth = Talks.of("00 00");
        CHECK.is("5 a smooth gap", smooth.tie(0), 1);
        CHECK.is("5 it costs as well", smooth.patience(), 27);

        SplicedTalk poor = Talks.of("00 00 00 00 00 00 00 00 00 00 00 00 0c");
        tieFirst(poor, 9);
        poor.removeCough(12);
        CHECK.is("5 2 patience", poor.patience(), 2);
        CHECK.refuses(poor, "5 too dear", STATE, () -> poor.tie(9));
        CHECK.refuses(poor, "5 too dear, no gap", INDEX, () -> poor.tie(11));
        poor.rest(1);
        CHECK.is("5 for all there is", poor.tie(9), 1);
        CHECK.is("5 no patience", poor.patience(), 0);
    }

    // Promise 6
    private static void splice() {
        SplicedTalk x = Talks.of("0c 10 2c 3c 44 5c 16");
        x.tie(1);
        CHECK.is("6 topic", x.splice(0), 2);
        CHECK.is("6 row", Talks.row(x), "0c 10 12 2c 3c 44 5c 16");
        CHECK.is("6 ties", Talks.ties(x), "--t");
        CHECK.is("6 coughs ahead", x.coughsIn(0), 0);
        CHECK.is("6 coughs behind", x.coughsIn(1), 2);
        CHECK.is("6 patience", x.patience(), 25);
        CHECK.is("6 spent", x.spent(), 5);

        SplicedTalk last = Talks.of("00 11 22 23");
        tieFirst(last, 2);
        CHECK.is("6 last gap", last.splice(2), 2);
        CHECK.is("6 last gap, row", Talks.row(last), "00 11 22 22 23");
        CHECK.is("6 last gap, ties", Talks.ties(last), "tt--");

        SplicedTalk stale = Talks.of("00 05 0c");
        stale.tie(0);
        stale.removeCough(2);
        stale.say(0, 0);
        stale.splice(1);
        CHECK.is("6 new gaps are not tied", Talks.ties(stale), "t--");

        SplicedTalk behindTie = Talks.of("00 05 00 05");
        behindTie.tie(1);
        behindTie.splice(0);
        CHECK.is("6 tie moves along", Talks.ties(behindTie), "--t-");
    }

    private static void spliceTopics() {
        for (int from = 0; from < 10; from++) {
            for (int up = 0; up < 10; up++) {
                int to = (from + up) % 10;
                // steps from the first word, for 0 to 9 steps upwards to the next one
                int half = new int[] {0, 0, 1, 1, 2, 2, -2, -1, -1, 0}[up];
                SplicedTalk x = new SplicedTalk();
                x.say(3, from);
                x.say(4, to);
                int due = (from + half + 10) % 10;
                CHECK.is("6 from " + from + " to " + to, x.splice(0), due);
                CHECK.is("6 row", Talks.row(x), "3" + from + " 3" + due + " 4" + to);
            }
        }
    }

    private static void spliceRefusals() {
        SplicedTalk x = Talks.of("00 15 20");
        x.tie(0);
        CHECK.refuses(x, "6 tied", STATE, () -> x.splice(0));
        for (int bad : new int[] {-1, 2, Integer.MIN_VALUE, Integer.MAX_VALUE}) {
            CHECK.refuses(x, "6 gap " + bad, INDEX, () -> x.splice(bad));
        }
        SplicedTalk full = fullTalk();
        CHECK.refuses(full, "6 full", STATE, () -> full.splice(0));
        CHECK.refuses(full, "6 full, no gap", INDEX, () -> full.splice(23));

        SplicedTalk almostFull = new SplicedTalk();
        for (int i = 0; i < 23; i++) {
            almostFull.say(i % 6, 0);
        }
        CHECK.is("6 the last room", almostFull.splice(21), 0);
        CHECK.refuses(almostFull, "6 full then", STATE, () -> almostFull.splice(0));

        SplicedTalk poor = Talks.of("00 00 00 00 00 00 00 00 00 00 00 00 0c 0c");
        tieFirst(poor, 9);
        poor.removeCough(13);
        poor.removeCough(12);
        CHECK.is("6 1 patience", poor.patience(), 1);
        CHECK.refuses(poor, "6 too dear", STATE, () -> poor.splice(10));
        CHECK.refuses(poor, "6 too dear, no gap", INDEX, () -> poor.splice(11));
        poor.rest(1);
        CHECK.is("6 for all there is", poor.splice(10), 0);
        CHECK.is("6 no patience", poor.patience(), 0);
    }

    // Promise 7
    private static void rest() {
        SplicedTalk x = new SplicedTalk();
        CHECK.is("7 least", x.rest(1), 31);
        CHECK.is("7 most", x.rest(60), 91);
        CHECK.is("7 to 98", x.rest(7), 98);
        CHECK.is("7 to 99", x.rest(1), 99);
        CHECK.is("7 no more than 99", x.rest(60), 99);
        CHECK.is("7 patience", x.patience(), 99);
        CHECK.is("7 nothing is spent", x.spent(), 0);
        CHECK.is("7 no more than 99 from 91", restedFrom91(), 99);
        for (int bad : new int[] {0, -1, 61, Integer.MIN_VALUE, Integer.MAX_VALUE}) {
            CHECK.refuses(x, "7 minutes " + bad, ARGUMENT, () -> x.rest(bad));
        }
    }

    private static int restedFrom91() {
        SplicedTalk x = new SplicedTalk();
        x.rest(60);
        x.rest(1);
        return x.rest(9);
    }

    // Promises 8 to 17
    private static void whatThereIs() {
        SplicedTalk x = Talks.of("5c 03 2c 19 0c 00 1c");
        CHECK.is("8", x.remarks(), 7);
        CHECK.is("9", x.words(), 3);
        CHECK.is("10", x.coughs(), 4);
        x.tie(0);
        x.splice(1);
        x.removeCough(0);
        CHECK.is("11", x.patience(), 24);
        CHECK.is("12", x.spent(), 6);
        x.rest(60);
        CHECK.is("11 after a rest", x.patience(), 84);
        CHECK.is("12 after a rest", x.spent(), 6);
        CHECK.is("13 to 16 row", Talks.row(x), "03 2c 19 19 0c 00 1c");
        int[] places = {0, 2, 3, 5};
        int[] topics = {3, 9, 9, 0};
        for (int word = 0; word < 4; word++) {
            CHECK.is("15", x.placeOf(word), places[word]);
            CHECK.is("16", x.topicOf(word), topics[word]);
            CHECK.is("13 word", x.isCough(places[word]), false);
        }
        CHECK.is("13 cough", x.isCough(1), true);
        CHECK.is("13 last", x.isCough(6), true);
        CHECK.is("14 of a cough", x.speakerAt(1), 2);
        CHECK.is("14 of a word", x.speakerAt(3), 1);
        CHECK.is("14 last", x.speakerAt(6), 1);
        int[] said = {2, 2, 0, 0, 0, 0};
        for (int speaker = 0; speaker < 6; speaker++) {
            CHECK.is("17", x.wordsOf(speaker), said[speaker]);
        }
        CHECK.is("17 last speaker", Talks.of("5c 53 54").wordsOf(5), 2);
        for (int bad : NO_SPEAKERS) {
            CHECK.refuses(x, "17 speaker " + bad, INDEX, () -> x.wordsOf(bad));
            CHECK.refuses(x, "30 speaker " + bad, INDEX, () -> x.threadsOf(bad));
        }
    }

    // Promises 18 to 20
    private static void gaps() {
        SplicedTalk x = Talks.of("0c 0c 09 1c 10 21 2c 3c 4c 56 5c");
        int[] coughs = {1, 0, 3};
        int[] strains = {2, 1, 8};
        x.tie(1);
        for (int gap = 0; gap < 3; gap++) {
            CHECK.is("18", x.coughsIn(gap), coughs[gap]);
            CHECK.is("19", x.strainOf(gap), strains[gap]);
            CHECK.is("20", x.isTied(gap), gap == 1);
        }
        for (int from = 0; from < 10; from++) {
            for (int up = 0; up < 10; up++) {
                SplicedTalk y = new SplicedTalk();
                y.say(0, from);
                y.say(1, (from + up) % 10);
                CHECK.is("19 from " + from + ", " + up + " up", y.strainOf(0), Math.min(up, 10 - up));
            }
        }
    }

    private static void kind(String what, SplicedTalk talk, String kind) {
        CHECK.is("21 " + what, talk.isSmooth(0), kind.equals("smooth"));
        CHECK.is("22 " + what, talk.isPolite(0), kind.equals("polite"));
        CHECK.is("23 " + what, talk.isBroken(0), kind.equals("broken"));
        CHECK.is("24 " + what, talk.brokenGaps(), kind.equals("broken") ? 1 : 0);
        CHECK.is("25 " + what, talk.politeGaps(), kind.equals("polite") ? 1 : 0);
    }

    // Promises 21 to 25
    private static void kindsOfGaps() {
        String[] ofTwo = {"smooth", "smooth", "polite", "broken", "broken", "broken", "broken"};
        String[] ofOne = {"smooth", "smooth", "polite", "polite", "polite", "broken", "broken"};
        for (int strain = 0; strain < 7; strain++) {
            for (int coughs = Math.max(0, strain - 5); coughs <= strain; coughs++) {
                String between = " 3c".repeat(coughs) + " ";
                int topic = strain - coughs;
                kind("two speakers, " + strain, Talks.of("01" + between + "1" + (1 + topic)), ofTwo[strain]);
                kind("one speaker, " + strain, Talks.of("28" + between + "2" + (8 + topic) % 10), ofOne[strain]);
                SplicedTalk tied = Talks.of("01" + between + "1" + (1 + topic));
                tied.tie(0);
                kind("tied, " + strain, tied, "smooth");
            }
        }
        SplicedTalk x = Talks.of("00 15 25 27 14 14 10 13");
        CHECK.is("24 several", x.brokenGaps(), 2);
        CHECK.is("25 several", x.politeGaps(), 3);
    }

    // Promises 26 to 32
    private static void threads() {
        SplicedTalk x = Talks.of("0c 00 01 15 16 25 00 0c");
        CHECK.is("26", x.threads(), 3);
        int[] threads = {0, 0, 1, 1, 1, 2};
        for (int word = 0; word < 6; word++) {
            CHECK.is("27 word " + word, x.threadOf(word), threads[word]);
        }
        int[] lengths = {2, 3, 1};
        int[] topics = {2, 2, 1};
        for (int thread = 0; thread < 3; thread++) {
            CHECK.is("28 thread " + thread, x.lengthOf(thread), lengths[thread]);
            CHECK.is("31 thread " + thread, x.topicsIn(thread), topics[thread]);
        }
        CHECK.is("29", x.longestThread(), 1);
        CHECK.is("30 in two", x.threadsOf(0), 2);
        CHECK.is("30 twice in one", x.threadsOf(1), 1);
        CHECK.is("30 in one", x.threadsOf(2), 1);
        CHECK.is("30 in none", x.threadsOf(3), 0);
        x.tie(1);
        CHECK.is("26 tied", x.threads(), 2);
        CHECK.is("28 tied", x.lengthOf(0), 5);
        CHECK.is("29 tied", x.longestThread(), 0);
        CHECK.is("31 tied", x.topicsIn(0), 4);
        CHECK.is("29 of two the first", Talks.of("00 15 16 20 31").longestThread(), 1);
        CHECK.is("29 of three the first", Talks.of("00 15 20").longestThread(), 0);
        CHECK.is("26 coughs alone", Talks.of("0c 1c").threads(), 0);
        CHECK.is("29 coughs alone", Talks.of("0c 1c").longestThread(), -1);
        CHECK.is("26 one word", Talks.of("0c 13").threads(), 1);
        CHECK.is("30 last speaker", Talks.of("50 55 50").threadsOf(5), 3);
        CHECK.is("31 all topics", Talks.of("00 01 02 03 04 05 06 07 08 09 00").topicsIn(0), 10);
        SplicedTalk removed = Talks.of("00 1c 1c 13");
        removed.removeCough(1);
        CHECK.is("26 still broken", removed.threads(), 2);
        SplicedTalk mended = Talks.of("00 1c 12");
        CHECK.is("26 broken by a cough", mended.threads(), 2);
        mended.removeCough(1);
        CHECK.is("26 mended", mended.threads(), 1);
    }

    private static void costs(String remarks, int due) {
        CHECK.is("32 " + remarks, Talks.of(remarks).costOfMending(0), due);
        CHECK.is("33 " + remarks, Talks.of(remarks).costOfAll(), due);
    }

    // Promises 32 and 33
    private static void mending() {
        costs("00 12", 0);
        costs("00 1c 11", 0);
        costs("00 13", 3);
        costs("00 1c 13", 3);
        costs("00 1c 12", 1);
        costs("00 1c 1c 12", 2);
        costs("00 1c 1c 1c 12", 3);
        costs("00 1c 1c 1c 1c 12", 3);
        costs("00 1c 1c 11", 1);
        costs("00 1c 1c 1c 10", 1);
        costs("00 04", 0);
        costs("00 05", 3);
        costs("00 1c 05", 3);
        costs("00 1c 04", 1);
        costs("00 1c 1c 1c 03", 2);
        costs("00 1c 1c 1c 1c 1c 1c 1c 1c 1c 00", 3);
        SplicedTalk x = Talks.of("00 1c 12 25 0c 0c 24 3c 3c 3c 33 04");
        CHECK.is("33 several", x.costOfAll(), 1 + 3 + 0 + 2);
        x.tie(1);
        CHECK.is("32 tied", x.costOfMending(1), 0);
        CHECK.is("33 tied", x.costOfAll(), 3);
        CHECK.is("32 changes nothing", Talks.row(x), "00 1c 12 25 0c 0c 24 3c 3c 3c 33 04");

        SplicedTalk poor = Talks.of("00 00 00 00 00 00 00 00 00 00 00 15");
        tieFirst(poor, 10);
        CHECK.is("32 without patience", poor.costOfMending(10), 3);
        CHECK.is("33 without patience", poor.costOfAll(), 3);
    }

    private static void after(String remarks, int gap, int due) {
        SplicedTalk x = Talks.of(remarks);
        CHECK.is("34 " + remarks, x.brokenAfterSplice(gap), due);
        CHECK.is("34 changes nothing", Talks.row(x), Talks.row(Talks.of(remarks)));
        x.splice(gap);
        CHECK.is("34 as splice does, " + remarks, x.brokenGaps(), due);
    }

    // Promise 34
    private static void brokenAfterSplice() {
        after("00 13", 0, 0);
        after("00 14", 0, 0);
        after("00 15", 0, 1);
        after("00 05", 0, 0);
        after("00 1c 13", 0, 1);
        after("00 0c 05", 0, 0);
        after("00 0c 0c 05", 0, 1);
        after("00 13 26 39", 1, 2);
        after("00 13 26 38", 2, 2);
        after("00 10 25", 0, 1);

        SplicedTalk x = Talks.of("00 15 20");
        x.tie(0);
        CHECK.refuses(x, "34 tied", STATE, () -> x.brokenAfterSplice(0));
        CHECK.is("34 beside a tie", x.brokenAfterSplice(1), 1);

        SplicedTalk full = fullTalk();
        CHECK.is("34 without room", full.brokenAfterSplice(0), 0);
        SplicedTalk poor = Talks.of("00 00 00 00 00 00 00 00 00 00 00 13");
        tieFirst(poor, 10);
        CHECK.is("34 without patience", poor.brokenAfterSplice(10), 0);
    }

    // Promise 35
    private static void bestSplice() {
        CHECK.is("35 one word", Talks.of("00").bestSplice(), -1);
        CHECK.is("35 smooth", Talks.of("00 10").bestSplice(), -1);
        CHECK.is("35 of no use", Talks.of("00 15").bestSplice(), -1);
        CHECK.is("35 the second", Talks.of("00 15 28").bestSplice(), 1);
        CHECK.is("35 of two the first", Talks.of("00 15 28 31").bestSplice(), 1);
        SplicedTalk x = Talks.of("00 13 26");
        CHECK.is("35 the first", x.bestSplice(), 0);
        x.tie(0);
        CHECK.is("35 not a tied one", x.bestSplice(), 1);
        x.tie(1);
        CHECK.is("35 all tied", x.bestSplice(), -1);

        SplicedTalk full = new SplicedTalk();
        for (int i = 0; i < 24; i++) {
            full.say(i % 6, i < 22 ? 0 : 3);
        }
        CHECK.is("35 without room", full.bestSplice(), 21);
        SplicedTalk poor = Talks.of("00 00 00 00 00 00 00 00 00 00 00 13");
        tieFirst(poor, 10);
        CHECK.is("35 without patience", poor.bestSplice(), 10);
    }

    // Promise 36
    private static void wouldBreak() {
        CHECK.is("36 no remark", new SplicedTalk().wouldBreak(0, 0), false);
        CHECK.is("36 coughs alone", Talks.of("0c 0c 0c 0c 0c 0c").wouldBreak(1, 5), false);
        for (int coughs = 0; coughs < 6; coughs++) {
            SplicedTalk x = Talks.of("0c 1c 28 0c 19" + " 4c".repeat(coughs));
            for (int speaker = 0; speaker < 6; speaker++) {
                for (int topic = 0; topic < 10; topic++) {
                    int up = (topic + 1) % 10;
                    int strain = Math.min(up, 10 - up) + coughs;
                    boolean due = strain > (speaker == 1 ? 4 : 2);
                    CHECK.is("36 " + coughs + " coughs, " + speaker + " says " + topic, x.wouldBreak(speaker, topic), due);
                }
            }
            CHECK.is("36 changes nothing", Talks.row(x), "0c 1c 28 0c 19" + " 4c".repeat(coughs));
        }
        SplicedTalk full = fullTalk();
        CHECK.is("36 without room, broken", full.wouldBreak(0, 8), true);
        CHECK.is("36 without room", full.wouldBreak(0, 3), false);
        SplicedTalk none = new SplicedTalk();
        for (SplicedTalk x : new SplicedTalk[] {none, full}) {
            for (int bad : NO_SPEAKERS) {
                CHECK.refuses(x, "36 speaker " + bad, INDEX, () -> x.wouldBreak(bad, 0));
                CHECK.refuses(x, "36 speaker and topic " + bad, INDEX, () -> x.wouldBreak(bad, 10));
            }
            for (int bad : NO_TOPICS) {
                CHECK.refuses(x, "36 topic " + bad, ARGUMENT, () -> x.wouldBreak(0, bad));
            }
        }
    }

    // Promise 37
    private static void meanStrain() {
        CHECK.is("37 one word", Talks.of("0c 00 0c 0c").meanStrain(), 0.0);
        CHECK.is("37 one gap", Talks.of("00 2c 03").meanStrain(), 4.0);
        SplicedTalk x = Talks.of("0c 00 15 15 2c 15 0c");
        CHECK.is("37 is not cut", x.meanStrain(), 2.0);
        SplicedTalk y = Talks.of("00 15 15 15");
        CHECK.is("37 thirds", y.meanStrain(), 5.0 / 3.0);
        y.tie(0);
        CHECK.is("37 tied ones as well", y.meanStrain(), 5.0 / 3.0);
    }

    private static long sumOf(long... numbers) {
        long d = 1997;
        for (long x : numbers) {
            d = d * 31 + x;
        }
        return d;
    }

    // Promise 38
    private static void digest() {
        CHECK.is("38 new", new SplicedTalk().digest(), sumOf(0, 0, 30, 0, 0, 0, 0, -1, 0, -1));
        SplicedTalk x = Talks.of("5c 00 13 2c 12 1c 46");
        x.tie(0);
        x.removeCough(3);
        x.cough(3);
        // row: 5c 00t 13 12 1c 46 3c
        CHECK.is("38", x.digest(), sumOf(7, 4, 26, 4, 1, 0, 2, 0, 3, -1,
                1, 5, 0, 0, 0, 1, 0, 1, 1, 1, 0, 4, 1, 3,
                1, 0, 0, 2, 3, 0, 3, 2, 0, 5, 6, 1,
                0, 3, 1, 0, 0, 0, 1, 0, 0, 0, 1, 5, 0, 1, 3));
    }

    // Promises 13 to 16, 18 to 23, 27, 28, 31, 32 and 34, wrong inputs
    private static void noSuchIndex() {
        SplicedTalk x = Talks.of("0c 00 15 2c 20 0c");
        for (int bad : new int[] {-1, 6, 24, Integer.MIN_VALUE, Integer.MAX_VALUE}) {
            noPlace(x, bad);
        }
        for (int bad : new int[] {-1, 3, 4, 24, Integer.MIN_VALUE, Integer.MAX_VALUE}) {
            noWord(x, bad);
            noThread(x, bad);
        }
        for (int bad : new int[] {-1, 2, 3, 24, Integer.MIN_VALUE, Integer.MAX_VALUE}) {
            noGap(x, bad);
        }
        SplicedTalk none = new SplicedTalk();
        noPlace(none, 0);
        noWord(none, 0);
        noThread(none, 0);
        noGap(none, 0);
        noGap(none, -1);
        SplicedTalk one = Talks.of("03 0c");
        noWord(one, 1);
        noThread(one, 1);
        noGap(one, 0);
        SplicedTalk smooth = Talks.of("03 03 03");
        noThread(smooth, 1);
    }

    private static void noPlace(SplicedTalk x, int bad) {
        CHECK.refuses(x, "4 place " + bad, INDEX, () -> x.removeCough(bad));
        CHECK.refuses(x, "13 place " + bad, INDEX, () -> x.isCough(bad));
        CHECK.refuses(x, "14 place " + bad, INDEX, () -> x.speakerAt(bad));
    }

    private static void noWord(SplicedTalk x, int bad) {
        CHECK.refuses(x, "15 word " + bad, INDEX, () -> x.placeOf(bad));
        CHECK.refuses(x, "16 word " + bad, INDEX, () -> x.topicOf(bad));
        CHECK.refuses(x, "27 word " + bad, INDEX, () -> x.threadOf(bad));
    }

    private static void noThread(SplicedTalk x, int bad) {
        CHECK.refuses(x, "28 thread " + bad, INDEX, () -> x.lengthOf(bad));
        CHECK.refuses(x, "31 thread " + bad, INDEX, () -> x.topicsIn(bad));
    }

    private static void noGap(SplicedTalk x, int bad) {
        CHECK.refuses(x, "5 gap " + bad, INDEX, () -> x.tie(bad));
        CHECK.refuses(x, "6 gap " + bad, INDEX, () -> x.splice(bad));
        CHECK.refuses(x, "18 gap " + bad, INDEX, () -> x.coughsIn(bad));
        CHECK.refuses(x, "19 gap " + bad, INDEX, () -> x.strainOf(bad));
        CHECK.refuses(x, "20 gap " + bad, INDEX, () -> x.isTied(bad));
        CHECK.refuses(x, "21 gap " + bad, INDEX, () -> x.isSmooth(bad));
        CHECK.refuses(x, "22 gap " + bad, INDEX, () -> x.isPolite(bad));
        CHECK.refuses(x, "23 gap " + bad, INDEX, () -> x.isBroken(bad));
        CHECK.refuses(x, "32 gap " + bad, INDEX, () -> x.costOfMending(bad));
        CHECK.refuses(x, "34 gap " + bad, INDEX, () -> x.brokenAfterSplice(bad));
    }
}
