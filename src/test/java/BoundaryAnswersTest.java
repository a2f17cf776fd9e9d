import java.math.BigInteger;
import java.util.ArrayList;
import java.util.List;

/** For each sentence of promises 8 to 38 of ../shared/DOC.md that names a boundary, a test of its own. */
public final class BoundaryAnswersTest {
    private static final Check CHECK = new Check("BoundaryAnswersTest");
    private static final Class<IndexOutOfBoundsException> INDEX = IndexOutOfBoundsException.class;
    private static final Class<IllegalArgumentException> ARGUMENT = IllegalArgumentException.class;
    private static final Class<IllegalStateException> STATE = IllegalStateException.class;
    private static final int LEAST = Integer.MIN_VALUE;
    private static final int MOST = Integer.MAX_VALUE;

    private static final String EMPTY = "";
    private static final String COUGHS = "0c 1c 2c";
    private static final String ONE_WORD = "0c 00 1c";
    private static final String SEVERAL = "0c 00 1c 15 2c 20 35 t0";
    private static final String FULL = Talks.broken(24);

    public static void main(String[] args) {
        howMany();
        howMuchPatience();
        howMuchSpent();
        noSuchPlace();
        whatStandsAtAPlace();
        noSuchWord();
        whatAWordIs();
        wordsOfASpeaker();
        noSuchGap();
        whatAGapHas();
        kindsOfGaps();
        howManyGaps();
        howManyThreads();
        noSuchThread();
        threadOfAWord();
        lengthOfAThread();
        longestThread();
        threadsOfASpeaker();
        topicsEachCountedOnce();
        costs0IfNotBroken();
        costs3ForTyingOr1ForEachCough();
        costsWhateverPatienceThereIs();
        costsOfAll();
        brokenAfterASplice();
        brokenAfterWhateverPatienceAndRoom();
        brokenAfterRefusals();
        bestOfSeveralTheSmallest();
        bestWithoutAny();
        bestWhateverPatienceAndRoom();
        wouldBreakWithoutAWord();
        wouldBreakAtTheEnd();
        wouldBreakRefusals();
        meanOfStrains();
        digestCounts();
        digestWrapsAround();
        CHECK.exit();
    }

    // 8 to 10: "Returns how many remarks there are.", "how many of them are words", "how many are coughs"
    private static void howMany() {
        counts(0, 0, EMPTY);
        counts(1, 0, "00");
        counts(0, 1, "0c");
        counts(0, 0, "0c r0");
        counts(4, 3, SEVERAL);
        counts(24, 0, FULL);
        counts(0, 24, "0c ".repeat(24));
        counts(12, 12, "00 0c ".repeat(12));
        counts(24, 0, Talks.broken(23) + "s21");
        counts(23, 0, Talks.broken(23) + "0c r23");
    }

    private static void counts(int words, int coughs, String calls) {
        CHECK.asks("8 " + calls, words + coughs, calls, SplicedTalk::remarks);
        CHECK.asks("9 " + calls, words, calls, SplicedTalk::words);
        CHECK.asks("10 " + calls, coughs, calls, SplicedTalk::coughs);
    }

    // 11: "Returns the patience."
    private static void howMuchPatience() {
        CHECK.asks("11 at first", 30, EMPTY, SplicedTalk::patience);
        CHECK.asks("11 none", 0, Talks.patience(0), SplicedTalk::patience);
        CHECK.asks("11 the most", 99, "w60 w60", SplicedTalk::patience);
        CHECK.asks("11 a cough, a splice and a tie", 24, "0c 00 14 r0 s0 t1", SplicedTalk::patience);
    }

    // 12: "Returns how much patience was spent in all."
    private static void howMuchSpent() {
        CHECK.asks("12 at first", 0, EMPTY, SplicedTalk::spent);
        CHECK.asks("12 a cough, a splice and a tie", 6, "0c 00 14 r0 s0 t1", SplicedTalk::spent);
        CHECK.asks("12 waiting gives none back", 6, "0c 00 14 r0 s0 t1 w60", SplicedTalk::spent);
        CHECK.asks("12 all there was at first", 30, Talks.patience(0), SplicedTalk::spent);
        CHECK.asks("12 more than there ever is at once", 110, "w60 w60 " + "0c r0 ".repeat(80) + "w60 " + "0c r0 ".repeat(30),
                SplicedTalk::spent);
    }

    // 13, 14: "if there is no such place"
    private static void noSuchPlace() {
        noSuchPlace(EMPTY, 0);
        noSuchPlace(COUGHS, 3);
        noSuchPlace(ONE_WORD, 3);
        noSuchPlace(SEVERAL, 7);
        noSuchPlace(FULL, 24);
        noSuchPlace("0c 1c r0", 1);
    }

    private static void noSuchPlace(String calls, int places) {
        for (int bad : new int[] {-1, places, places + 1, 25, LEAST, MOST}) {
            CHECK.refuses("13 place " + bad, INDEX, calls, x -> x.isCough(bad));
            CHECK.refuses("14 place " + bad, INDEX, calls, x -> x.speakerAt(bad));
        }
    }

    // 13, 14: the first and the last place
    private static void whatStandsAtAPlace() {
        CHECK.asks("13 the first, a cough", true, SEVERAL, x -> x.isCough(0));
        CHECK.asks("13 the last, a word", false, SEVERAL, x -> x.isCough(6));
        CHECK.asks("13 a word of topic 0", false, "00", x -> x.isCough(0));
        CHECK.asks("13 place 23, a cough", true, Talks.broken(23) + "0c", x -> x.isCough(23));
        CHECK.asks("14 the first", 5, "5c 00", x -> x.speakerAt(0));
        CHECK.asks("14 the last", 5, "0c 50", x -> x.speakerAt(1));
        CHECK.asks("14 place 23", 4, Talks.broken(23) + "4c", x -> x.speakerAt(23));
    }

    // 15, 16, 27: "if there is no such word"
    private static void noSuchWord() {
        noSuchWord(EMPTY, 0);
        noSuchWord(COUGHS, 0);
        noSuchWord(ONE_WORD, 1);
        noSuchWord(SEVERAL, 4);
        noSuchWord(FULL, 24);
    }

    private static void noSuchWord(String calls, int words) {
        for (int bad : new int[] {-1, words, words + 1, 25, LEAST, MOST}) {
            CHECK.refuses("15 word " + bad, INDEX, calls, x -> x.placeOf(bad));
            CHECK.refuses("16 word " + bad, INDEX, calls, x -> x.topicOf(bad));
            CHECK.refuses("27 word " + bad, INDEX, calls, x -> x.threadOf(bad));
        }
    }

    // 15, 16: the first and the last word
    private static void whatAWordIs() {
        CHECK.asks("15 the first", 1, SEVERAL, x -> x.placeOf(0));
        CHECK.asks("15 the last", 6, SEVERAL, x -> x.placeOf(3));
        CHECK.asks("15 one that moved up", 0, "0c 00 r0", x -> x.placeOf(0));
        CHECK.asks("15 one at place 23", 23, "0c ".repeat(23) + "00", x -> x.placeOf(0));
        CHECK.asks("16 the least", 0, "0c 00", x -> x.topicOf(0));
        CHECK.asks("16 the greatest", 9, "0c 09", x -> x.topicOf(0));
        CHECK.asks("16 the last of 24", 5, FULL, x -> x.topicOf(23));
    }

    // 17: "Returns how many words this one says.", "if speaker is not 0 to 5"
    private static void wordsOfASpeaker() {
        for (int one = 0; one < 6; one++) {
            int speaker = one;
            CHECK.asks("17 none", 0, EMPTY, x -> x.wordsOf(speaker));
            CHECK.asks("17 coughs count not", 0, (speaker + "c ").repeat(3), x -> x.wordsOf(speaker));
            CHECK.asks("17 24", 24, (speaker + "0 ").repeat(24), x -> x.wordsOf(speaker));
            CHECK.asks("17 of 24", 4, Talks.smooth(24), x -> x.wordsOf(speaker));
        }
        CHECK.asks("17 a spliced one", 2, "10 24 s0", x -> x.wordsOf(1));
        for (int bad : new int[] {-1, 6, LEAST, MOST}) {
            CHECK.refuses("17 speaker " + bad, INDEX, EMPTY, x -> x.wordsOf(bad));
            CHECK.refuses("17 speaker " + bad, INDEX, SEVERAL, x -> x.wordsOf(bad));
        }
    }

    // 18 to 23, 32 and 34: "if there is no such gap"
    private static void noSuchGap() {
        noSuchGap(EMPTY, 0);
        noSuchGap(COUGHS, 0);
        noSuchGap(ONE_WORD, 0);
        noSuchGap("00 15", 1);
        noSuchGap(SEVERAL, 3);
        noSuchGap(FULL, 23);
    }

    private static void noSuchGap(String calls, int gaps) {
        for (int bad : new int[] {-1, -2, gaps, gaps + 1, 24, LEAST, MOST}) {
            CHECK.refuses("18 gap " + bad, INDEX, calls, x -> x.coughsIn(bad));
            CHECK.refuses("19 gap " + bad, INDEX, calls, x -> x.strainOf(bad));
            CHECK.refuses("20 gap " + bad, INDEX, calls, x -> x.isTied(bad));
            CHECK.refuses("21 gap " + bad, INDEX, calls, x -> x.isSmooth(bad));
            CHECK.refuses("22 gap " + bad, INDEX, calls, x -> x.isPolite(bad));
            CHECK.refuses("23 gap " + bad, INDEX, calls, x -> x.isBroken(bad));
            CHECK.refuses("32 gap " + bad, INDEX, calls, x -> x.costOfMending(bad));
            CHECK.refuses("34 gap " + bad, INDEX, calls, x -> x.brokenAfterSplice(bad));
        }
    }

    // 18 to 20: the first and the last gap, none and many
    private static void whatAGapHas() {
        CHECK.asks("18 the first", 1, SEVERAL, x -> x.coughsIn(0));
        CHECK.asks("18 the last", 0, SEVERAL, x -> x.coughsIn(2));
        CHECK.asks("18 the most", 22, "00 " + "0c ".repeat(22) + "00", x -> x.coughsIn(0));
        CHECK.asks("18 one removed", 1, "00 0c 0c 00 r2", x -> x.coughsIn(0));
        CHECK.asks("19 the first", 6, SEVERAL, x -> x.strainOf(0));
        CHECK.asks("19 the last", 5, SEVERAL, x -> x.strainOf(2));
        CHECK.asks("19 the least", 0, "00 10", x -> x.strainOf(0));
        CHECK.asks("19 the greatest", 27, "00 " + "0c ".repeat(22) + "05", x -> x.strainOf(0));
        CHECK.asks("20 the first", true, SEVERAL, x -> x.isTied(0));
        CHECK.asks("20 the last", false, SEVERAL, x -> x.isTied(2));
        CHECK.asks("20 the last of 24 words", true, FULL + "t22", x -> x.isTied(22));
    }

    // 21 to 23: each gap is of just one kind, on either side of each bound
    private static void kindsOfGaps() {
        String[] ofTwo = {"s", "s", "p", "b", "b", "b", "b"};
        String[] ofOne = {"s", "s", "p", "p", "p", "b", "b"};
        for (int strain = 0; strain < 7; strain++) {
            for (int coughs = Math.max(0, strain - 5); coughs <= strain; coughs++) {
                String between = " 2c".repeat(coughs);
                int topic = (8 + strain - coughs) % 10;
                CHECK.asks("21 to 23 two speakers, " + strain, ofTwo[strain], "18" + between + " 2" + topic, x -> kinds(x, 0));
                CHECK.asks("21 to 23 one speaker, " + strain, ofOne[strain], "28" + between + " 2" + topic, x -> kinds(x, 0));
                CHECK.asks("21 to 23 tied, " + strain, "s", "18" + between + " 2" + topic + " t0", x -> kinds(x, 0));
            }
        }
        CHECK.asks("21 to 23 the last gap", "p", "00 15 27", x -> kinds(x, 1));
    }

    private static String kinds(SplicedTalk x, int gap) {
        return (x.isSmooth(gap) ? "s" : "") + (x.isPolite(gap) ? "p" : "") + (x.isBroken(gap) ? "b" : "");
    }

    // 24, 25: "Returns how many gaps are broken.", "Returns how many gaps are polite."
    private static void howManyGaps() {
        for (String calls : new String[] {EMPTY, COUGHS, ONE_WORD, "00 10", Talks.smooth(24)}) {
            CHECK.asks("24 none", 0, calls, SplicedTalk::brokenGaps);
            CHECK.asks("25 none", 0, calls, SplicedTalk::politeGaps);
        }
        CHECK.asks("24 all of 23", 23, FULL, SplicedTalk::brokenGaps);
        CHECK.asks("24 but a tied one", 22, FULL + "t22", SplicedTalk::brokenGaps);
        CHECK.asks("24 the polite count not", 0, "00 12 ".repeat(12), SplicedTalk::brokenGaps);
        CHECK.asks("25 all of 23", 23, "00 12 ".repeat(12), SplicedTalk::politeGaps);
        CHECK.asks("25 but a tied one", 22, "00 12 ".repeat(12) + "t0", SplicedTalk::politeGaps);
        CHECK.asks("25 the broken count not", 0, FULL, SplicedTalk::politeGaps);
    }

    // 26: "Returns how many threads there are."
    private static void howManyThreads() {
        CHECK.asks("26 without remarks", 0, EMPTY, SplicedTalk::threads);
        CHECK.asks("26 without words", 0, COUGHS, SplicedTalk::threads);
        CHECK.asks("26 one word", 1, ONE_WORD, SplicedTalk::threads);
        CHECK.asks("26 one of 24", 1, Talks.smooth(24), SplicedTalk::threads);
        CHECK.asks("26 24 of one", 24, FULL, SplicedTalk::threads);
        CHECK.asks("26 torn by a cough", 2, "00 1c 12", SplicedTalk::threads);
        CHECK.asks("26 mended by its removal", 1, "00 1c 12 r1", SplicedTalk::threads);
        CHECK.asks("26 mended by a splice", 1, "00 14 s0", SplicedTalk::threads);
    }

    // 28, 31: "if there is no such thread"
    private static void noSuchThread() {
        noSuchThread(EMPTY, 0);
        noSuchThread(COUGHS, 0);
        noSuchThread(ONE_WORD, 1);
        noSuchThread(SEVERAL, 3);
        noSuchThread("00 15 20 t0 t1", 1);
        noSuchThread(Talks.smooth(24), 1);
        noSuchThread(FULL, 24);
    }

    private static void noSuchThread(String calls, int threads) {
        for (int bad : new int[] {-1, threads, threads + 1, 25, LEAST, MOST}) {
            CHECK.refuses("28 thread " + bad, INDEX, calls, x -> x.lengthOf(bad));
            CHECK.refuses("31 thread " + bad, INDEX, calls, x -> x.topicsIn(bad));
        }
    }

    // 27: "Returns its thread."
    private static void threadOfAWord() {
        CHECK.asks("27 the first word", 0, SEVERAL, x -> x.threadOf(0));
        CHECK.asks("27 over a tied gap", 0, SEVERAL, x -> x.threadOf(1));
        CHECK.asks("27 over a polite gap", 0, "00 12", x -> x.threadOf(1));
        CHECK.asks("27 behind a broken gap", 1, SEVERAL, x -> x.threadOf(2));
        CHECK.asks("27 the last word", 2, SEVERAL, x -> x.threadOf(3));
        CHECK.asks("27 word 23 of one thread", 0, Talks.smooth(24), x -> x.threadOf(23));
        CHECK.asks("27 word 23 of 24 threads", 23, FULL, x -> x.threadOf(23));
    }

    // 28: "Returns how many words it has."
    private static void lengthOfAThread() {
        CHECK.asks("28 one", 1, ONE_WORD, x -> x.lengthOf(0));
        CHECK.asks("28 the first", 2, SEVERAL, x -> x.lengthOf(0));
        CHECK.asks("28 the last", 1, SEVERAL, x -> x.lengthOf(2));
        CHECK.asks("28 coughs count not", 2, "00 2c 00 2c", x -> x.lengthOf(0));
        CHECK.asks("28 all 24", 24, Talks.smooth(24), x -> x.lengthOf(0));
        CHECK.asks("28 the last of 24", 1, FULL, x -> x.lengthOf(23));
    }

    // 29: "Returns the longest thread, of several the smallest number; -1 without words."
    private static void longestThread() {
        CHECK.asks("29 without remarks", -1, EMPTY, SplicedTalk::longestThread);
        CHECK.asks("29 without words", -1, COUGHS, SplicedTalk::longestThread);
        CHECK.asks("29 one word", 0, ONE_WORD, SplicedTalk::longestThread);
        CHECK.asks("29 of two the first", 0, "00 15", SplicedTalk::longestThread);
        CHECK.asks("29 of 24 the first", 0, FULL, SplicedTalk::longestThread);
        CHECK.asks("29 of two behind a shorter one", 1, "00 15 15 20 20", SplicedTalk::longestThread);
        CHECK.asks("29 the last", 2, "00 15 20 20", SplicedTalk::longestThread);
        CHECK.asks("29 in the middle", 1, "00 15 15 15 20 20", SplicedTalk::longestThread);
    }

    // 30: "Returns in how many threads this one says a word.", "if speaker is not 0 to 5"
    private static void threadsOfASpeaker() {
        CHECK.asks("30 in each of 24", 24, "00 05 ".repeat(12), x -> x.threadsOf(0));
        CHECK.asks("30 in every other", 12, FULL, x -> x.threadsOf(1));
        CHECK.asks("30 in none", 0, FULL, x -> x.threadsOf(2));
        CHECK.asks("30 several words in one", 1, "50 10 50 50", x -> x.threadsOf(5));
        CHECK.asks("30 the last speaker, in the last", 1, "00 15 50", x -> x.threadsOf(5));
        for (int one = 0; one < 6; one++) {
            int speaker = one;
            CHECK.asks("30 without remarks", 0, EMPTY, x -> x.threadsOf(speaker));
            CHECK.asks("30 a cough is no word", 0, speaker + "c " + (speaker + 1) % 6 + "0 " + speaker + "c", x -> x.threadsOf(speaker));
        }
        for (int bad : new int[] {-1, 6, LEAST, MOST}) {
            CHECK.refuses("30 speaker " + bad, INDEX, EMPTY, x -> x.threadsOf(bad));
            CHECK.refuses("30 speaker " + bad, INDEX, SEVERAL, x -> x.threadsOf(bad));
        }
    }

    // 31: "Returns how many topics its words have, each counted once."
    private static void topicsEachCountedOnce() {
        CHECK.asks("31 one word", 1, "09", x -> x.topicsIn(0));
        CHECK.asks("31 one topic, 24 times", 1, Talks.smooth(24), x -> x.topicsIn(0));
        CHECK.asks("31 twice, not side by side", 2, "00 01 00 01", x -> x.topicsIn(0));
        CHECK.asks("31 all ten", 10, "00 01 02 03 04 05 06 07 08 09 00 01", x -> x.topicsIn(0));
        CHECK.asks("31 not those of the next thread", 2, "00 01 16 17 18", x -> x.topicsIn(0));
        CHECK.asks("31 of the last thread", 3, "00 01 16 17 18", x -> x.topicsIn(1));
    }

    private static void cost(String what, int due, String two) {
        CHECK.asks("32 " + what + ", " + two, due, two, x -> x.costOfMending(0));
    }

    // 32: "0 if it is not broken"
    private static void costs0IfNotBroken() {
        cost("smooth", 0, "00 11");
        cost("polite", 0, "00 12");
        cost("polite with coughs", 0, "00 2c 2c 10");
        cost("polite, of one speaker", 0, "00 2c 2c 2c 2c 00");
        cost("tied", 0, "00 15 t0");
        cost("tied with coughs", 0, "00 2c 2c 2c 2c 10 t0");
    }

    // 32: "otherwise 3 for tying it, or 1 for each of its coughs that has to be removed, if removing coughs alone
    // mends it, whichever is less"
    private static void costs3ForTyingOr1ForEachCough() {
        cost("without coughs", 3, "00 13");
        cost("too far apart for two speakers", 3, "00 2c 13");
        cost("too far apart for two speakers, two coughs", 3, "00 2c 2c 13");
        cost("just near enough for two speakers", 1, "00 2c 12");
        cost("two coughs", 2, "00 2c 2c 12");
        cost("three coughs, as dear as tying", 3, "00 2c 2c 2c 12");
        cost("four coughs, dearer than tying", 3, "00 2c 2c 2c 2c 12");
        cost("one of two coughs", 1, "00 2c 2c 11");
        cost("two of three coughs", 2, "00 2c 2c 2c 11");
        cost("one of three coughs", 1, "00 2c 2c 2c 10");
        cost("two of four coughs", 2, "00 2c 2c 2c 2c 10");
        cost("too far apart for one speaker", 3, "00 05");
        cost("too far apart for one speaker, with a cough", 3, "00 2c 05");
        cost("too far apart for one speaker, with five", 3, "00 2c 2c 2c 2c 2c 05");
        cost("just near enough for one speaker", 1, "00 2c 04");
        cost("one speaker, two coughs", 2, "00 2c 2c 04");
        cost("one speaker, three coughs", 3, "00 2c 2c 2c 04");
        cost("one speaker, one of five coughs", 1, "00 2c 2c 2c 2c 2c 00");
        cost("22 coughs", 3, "00 " + "2c ".repeat(22) + "00");
    }

    // 32: "whatever patience there is (nothing is changed)"
    private static void costsWhateverPatienceThereIs() {
        for (int patience = 0; patience <= 3; patience++) {
            cost("tying, patience " + patience, 3, Talks.patience(patience) + "00 15");
            cost("a cough, patience " + patience, 1, Talks.patience(patience) + "00 1c 12");
            cost("two coughs, patience " + patience, 2, Talks.patience(patience) + "00 1c 1c 12");
        }
        CHECK.asks("32 without room", 3, FULL, x -> x.costOfMending(22));
    }

    // 33: "Returns the least patience that mends all gaps so (nothing is changed)."
    private static void costsOfAll() {
        for (String calls : new String[] {EMPTY, COUGHS, ONE_WORD, "00 10", "00 12", "00 15 t0", Talks.smooth(24)}) {
            CHECK.asks("33 none", 0, calls, SplicedTalk::costOfAll);
        }
        CHECK.asks("33 one gap", 2, "00 1c 1c 12", SplicedTalk::costOfAll);
        CHECK.asks("33 each in its way", 1 + 0 + 3 + 2, "00 1c 12 12 27 0c 0c 19", SplicedTalk::costOfAll);
        CHECK.asks("33 coughs ahead and behind cost nothing", 3, "0c 0c 00 15 0c 0c", SplicedTalk::costOfAll);
        CHECK.asks("33 23 gaps, more than there is", 69, FULL, SplicedTalk::costOfAll);
        CHECK.asks("33 without patience", 6, Talks.patience(0) + "00 15 20", SplicedTalk::costOfAll);
    }

    private static void after(int due, String calls, int gap) {
        CHECK.asks("34 into " + gap + " of " + calls, due, calls, x -> x.brokenAfterSplice(gap));
        CHECK.asks("34 as it is then, " + calls, due, calls + " s" + gap, SplicedTalk::brokenGaps);
    }

    // 34: "Returns how many gaps would be broken, if a topic was spliced into it"
    private static void brokenAfterASplice() {
        after(0, "00 10", 0);
        after(0, "00 12", 0);
        after(0, "00 13", 0);
        after(0, "00 14", 0);
        after(1, "00 15", 0);
        after(0, "00 05", 0);
        after(0, "00 06", 0);
        after(0, "00 2c 12", 0);
        after(1, "00 2c 13", 0);
        after(0, "00 2c 05", 0);
        after(1, "00 2c 2c 05", 0);
        after(0, "00 2c 2c 04", 0);
        after(1, "00 2c 2c 2c 10", 0);
        after(2, "00 15 20 t0 35", 2);
        after(1, "00 14 28", 0);
        after(1, "00 14 28", 1);
        after(22, Talks.broken(23), 0);
        after(22, Talks.broken(23), 21);
    }

    // 34: "whatever patience and room there is (nothing is changed)"
    private static void brokenAfterWhateverPatienceAndRoom() {
        for (int patience = 0; patience <= 2; patience++) {
            CHECK.asks("34 patience " + patience, 0, Talks.patience(patience) + "00 14", x -> x.brokenAfterSplice(0));
        }
        CHECK.asks("34 24 words, the first gap", 23, FULL, x -> x.brokenAfterSplice(0));
        CHECK.asks("34 24 words, the last gap", 0, Talks.smooth(23) + "04", x -> x.brokenAfterSplice(22));
        CHECK.asks("34 24 remarks", 2, "00 14 " + "0c ".repeat(20) + "14 20", x -> x.brokenAfterSplice(0));
        CHECK.asks("34 neither", 0, Talks.patience(0) + Talks.smooth(23) + "04", x -> x.brokenAfterSplice(22));
    }

    // 34: "a gap that is not tied", "if it is tied"
    private static void brokenAfterRefusals() {
        CHECK.refuses("34 tied", STATE, "00 15 t0", x -> x.brokenAfterSplice(0));
        CHECK.refuses("34 the last, tied", STATE, "00 15 20 t1", x -> x.brokenAfterSplice(1));
        CHECK.refuses("34 smooth and tied", STATE, "00 00 t0", x -> x.brokenAfterSplice(0));
        CHECK.refuses("34 tied, without room", STATE, FULL + "t22", x -> x.brokenAfterSplice(22));
        CHECK.asks("34 beside a tied one", 1, "00 15 20 t1", x -> x.brokenAfterSplice(0));
    }

    // 35: "so that the fewest gaps would be broken, of several the smallest number"
    private static void bestOfSeveralTheSmallest() {
        CHECK.asks("35 one gap", 0, "00 14", SplicedTalk::bestSplice);
        CHECK.asks("35 of two the first", 0, "00 14 28", SplicedTalk::bestSplice);
        CHECK.asks("35 of two behind one of no use", 1, "00 15 29 33", SplicedTalk::bestSplice);
        CHECK.asks("35 the last", 2, "00 15 20 33", SplicedTalk::bestSplice);
        CHECK.asks("35 of two, where the first is tied", 1, "00 14 28 t0", SplicedTalk::bestSplice);
        CHECK.asks("35 of 23 the first", 0, "00 14 ".repeat(12), SplicedTalk::bestSplice);
        CHECK.asks("35 of 23 the last", 22, Talks.smooth(23) + "54", SplicedTalk::bestSplice);
    }

    // 35: "-1 if there is none that is not tied, or by none fewer would be than now (nothing is changed)"
    private static void bestWithoutAny() {
        for (String calls : new String[] {EMPTY, COUGHS, ONE_WORD, "00 14 t0", "00 14 28 t0 t1"}) {
            CHECK.asks("35 none that is not tied", -1, calls, SplicedTalk::bestSplice);
        }
        for (String calls : new String[] {"00 10", "00 12", "00 15", "00 15 20", "00 1c 13", FULL, Talks.smooth(24)}) {
            CHECK.asks("35 by none fewer", -1, calls, SplicedTalk::bestSplice);
        }
        CHECK.asks("35 the one of use is tied", -1, "00 15 29 t1", SplicedTalk::bestSplice);
    }

    // 35: as 34, "whatever patience and room there is"
    private static void bestWhateverPatienceAndRoom() {
        CHECK.asks("35 without patience", 0, Talks.patience(0) + "00 14", SplicedTalk::bestSplice);
        CHECK.asks("35 with 1 patience", 0, Talks.patience(1) + "00 14", SplicedTalk::bestSplice);
        CHECK.asks("35 24 words", 22, Talks.smooth(23) + "54", SplicedTalk::bestSplice);
        CHECK.asks("35 24 remarks", 0, "00 14 " + "0c ".repeat(22), SplicedTalk::bestSplice);
    }

    private static void would(String what, boolean due, String calls, int speaker, int topic) {
        CHECK.asks("36 " + what, due, calls, x -> x.wouldBreak(speaker, topic));
    }

    // 36: "false if there is no word yet (nothing is changed)"
    private static void wouldBreakWithoutAWord() {
        for (int speaker = 0; speaker < 6; speaker++) {
            for (int topic = 0; topic < 10; topic++) {
                would("without remarks", false, EMPTY, speaker, topic);
                would("coughs alone", false, "0c 1c 2c 3c 4c 5c", speaker, topic);
            }
        }
        would("24 coughs", false, "0c ".repeat(24), 5, 5);
    }

    // 36: "whether the gap ahead of a word would be broken, if this one said it now, at the end"
    private static void wouldBreakAtTheEnd() {
        would("strain 2, two speakers", false, "09", 1, 1);
        would("strain 3, two speakers", true, "09", 1, 2);
        would("strain 4, one speaker", false, "09", 0, 3);
        would("strain 5, one speaker", true, "09", 0, 4);
        would("a cough behind, strain 2", false, "09 0c", 1, 0);
        would("a cough behind, strain 3", true, "09 0c", 1, 1);
        would("coughs behind, strain 4, one speaker", false, "09 1c 1c 1c 1c", 0, 9);
        would("coughs behind, strain 5, one speaker", true, "09 1c 1c 1c 1c 1c", 0, 9);
        would("the last word counts, not the first", false, "05 29 10", 1, 2);
        would("coughs ahead of the last word count not", false, "0c 1c 05 1c 1c 10", 2, 2);
        would("a tie ahead of the last word counts not", true, "05 10 t0", 1, 5);
        would("24 words, strain 3", true, Talks.smooth(24), 0, 3);
        would("24 words, strain 2", false, Talks.smooth(24), 0, 2);
        would("23 coughs behind", true, "00 " + "0c ".repeat(23), 0, 0);
    }

    // 36: "if speaker is not 0 to 5", "if topic is not 0 to 9"
    private static void wouldBreakRefusals() {
        for (String calls : new String[] {EMPTY, COUGHS, SEVERAL, FULL}) {
            for (int bad : new int[] {-1, 6, LEAST, MOST}) {
                CHECK.refuses("36 speaker " + bad, INDEX, calls, x -> x.wouldBreak(bad, 0));
                CHECK.refuses("36 speaker as topic " + bad, INDEX, calls, x -> x.wouldBreak(bad, -1));
            }
            for (int bad : new int[] {-1, 10, LEAST, MOST}) {
                CHECK.refuses("36 topic " + bad, ARGUMENT, calls, x -> x.wouldBreak(5, bad));
            }
        }
        would("the least", false, "00", 0, 0);
        would("the greatest", false, "00", 5, 9);
    }

    // 37: "Returns the mean strain of gaps, tied ones as well; 0 without any."
    private static void meanOfStrains() {
        for (String calls : new String[] {EMPTY, COUGHS, ONE_WORD, "00", "00 2c 2c"}) {
            CHECK.asks("37 without any", 0.0, calls, SplicedTalk::meanStrain);
        }
        CHECK.asks("37 one gap", 6.0, "00 1c 15", SplicedTalk::meanStrain);
        CHECK.asks("37 of strain 0", 0.0, "00 10", SplicedTalk::meanStrain);
        CHECK.asks("37 a tied one alone", 6.0, "00 1c 15 t0", SplicedTalk::meanStrain);
        CHECK.asks("37 a tied one as well", 3.5, "00 1c 15 26 t0", SplicedTalk::meanStrain);
        CHECK.asks("37 a half is not cut", 2.5, "00 15 15", SplicedTalk::meanStrain);
        CHECK.asks("37 a third", 5.0 / 3.0, "00 15 15 15", SplicedTalk::meanStrain);
        CHECK.asks("37 coughs ahead and behind count not", 5.0, "0c 0c 00 15 0c", SplicedTalk::meanStrain);
        CHECK.asks("37 23 gaps", 5.0, FULL, SplicedTalk::meanStrain);
        CHECK.asks("37 the greatest", 27.0, "00 " + "1c ".repeat(22) + "15", SplicedTalk::meanStrain);
    }

    private static long sumOf(Iterable<Integer> numbers) {
        BigInteger sum = BigInteger.valueOf(1997);
        for (int x : numbers) {
            sum = sum.multiply(BigInteger.valueOf(31)).add(BigInteger.valueOf(x));
        }
        return sum.longValue();
    }

    // 38: "A number d starts with 1997; for each of the following numbers x, d becomes d * 31 + x"
    private static void digestCounts() {
        CHECK.asks("38 without remarks", sumOf(List.of(0, 0, 30, 0, 0, 0, 0, -1, 0, -1)), EMPTY, SplicedTalk::digest);
        CHECK.asks("38 a cough alone", sumOf(List.of(1, 0, 30, 0, 0, 0, 0, -1, 0, -1, 1, 4)), "4c", SplicedTalk::digest);
        CHECK.asks("38 a word alone", sumOf(List.of(1, 1, 30, 0, 0, 0, 1, 0, 0, -1, 0, 4, 0, 7, 0)), "47", SplicedTalk::digest);
        CHECK.asks("38 a gap", sumOf(List.of(3, 2, 30, 0, 1, 0, 2, 0, 1, 0,
                0, 0, 1, 5, 0, 1, 0, 0, 0, 2, 2, 1, 1, 3, 0, 1, 1)), "00 5c 12", SplicedTalk::digest);
        CHECK.asks("38 tied", sumOf(List.of(3, 2, 27, 3, 0, 0, 1, 0, 0, -1,
                0, 0, 1, 5, 0, 1, 0, 0, 0, 2, 2, 0, 1, 3, 1, 0, 0)), "00 5c 12 t0", SplicedTalk::digest);
        CHECK.asks("38 polite", sumOf(List.of(2, 2, 30, 0, 0, 1, 1, 0, 0, -1,
                0, 0, 0, 1, 0, 0, 0, 1, 2, 0, 0, 2, 0, 0, 0)), "00 12", SplicedTalk::digest);
    }

    // 38: "which wraps around as a 64-bit integer"
    private static void digestWrapsAround() {
        String[] talks = {EMPTY, "00", SEVERAL, FULL, "0c ".repeat(24), Talks.smooth(24) + "t0 t22", "w60 w60"};
        for (String calls : talks) {
            CHECK.asks("38 the whole, " + calls, sumOf(numbers(Talks.of(calls))), calls, SplicedTalk::digest);
        }
        boolean below = false;
        for (int topic = 0; topic < 10; topic++) {
            below |= Talks.of("0" + topic + " 10").digest() < 0;
        }
        CHECK.is("38 it wraps below 0 as well", below, true);
    }

    private static List<Integer> numbers(SplicedTalk x) {
        List<Integer> all = new ArrayList<>(List.of(x.remarks(), x.words(), x.patience(), x.spent(), x.brokenGaps(),
                x.politeGaps(), x.threads(), x.longestThread(), x.costOfAll(), x.bestSplice()));
        for (int place = 0; place < x.remarks(); place++) {
            all.addAll(List.of(x.isCough(place) ? 1 : 0, x.speakerAt(place)));
        }
        for (int word = 0; word < x.words(); word++) {
            all.addAll(List.of(x.placeOf(word), x.topicOf(word), x.threadOf(word)));
        }
        for (int gap = 0; gap < x.words() - 1; gap++) {
            all.addAll(List.of(x.coughsIn(gap), x.strainOf(gap), x.isTied(gap) ? 1 : 0, x.isBroken(gap) ? 1 : 0,
                    x.costOfMending(gap)));
        }
        return all;
    }
}
