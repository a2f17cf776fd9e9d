/** For each sentence of promises 1 to 7 of ../shared/DOC.md that names a boundary, a test of its own. */
public final class BoundaryChangesTest {
    private static final Check CHECK = new Check("BoundaryChangesTest");
    private static final Class<IndexOutOfBoundsException> INDEX = IndexOutOfBoundsException.class;
    private static final Class<IllegalArgumentException> ARGUMENT = IllegalArgumentException.class;
    private static final Class<IllegalStateException> STATE = IllegalStateException.class;
    private static final int LEAST = Integer.MIN_VALUE;
    private static final int MOST = Integer.MAX_VALUE;

    public static void main(String[] args) {
        withoutRemarks();
        nothingOfAnotherObject();
        saysAtTheEnd();
        gapAheadIsNotTied();
        saysItsPlace();
        sayRefusals();
        coughsAtTheEnd();
        coughRefusals();
        removesForOnePatience();
        remarksBehindMoveUp();
        saysHowManyRemarksThen();
        removeNoSuchPlace();
        removeAWord();
        removeTooDear();
        tiesForThreePatience();
        saysHowManyThreadsThen();
        tieNoSuchGap();
        tieATiedGap();
        tieTooDear();
        splicesForTwoPatience();
        newWordRightBehindTheFirst();
        newWordOfTheFirstSpeaker();
        topicHalfAsFar();
        halfIsCut();
        fiveApartUpwards();
        gapAheadOfTheNewWord();
        gapBehindTheNewWord();
        otherGapsStayAsTheyAre();
        spliceNoSuchGap();
        spliceATiedGap();
        spliceWithoutRoom();
        spliceTooDear();
        oneMoreForEachMinute();
        atMost99();
        restRefusals();
        CHECK.exit();
    }

    // 1: "Creates a conversation without remarks."
    private static void withoutRemarks() {
        CHECK.asks("1 remarks", 0, "", SplicedTalk::remarks);
        CHECK.asks("1 words", 0, "", SplicedTalk::words);
        CHECK.asks("1 coughs", 0, "", SplicedTalk::coughs);
        CHECK.asks("1 threads", 0, "", SplicedTalk::threads);
        CHECK.asks("1 spent", 0, "", SplicedTalk::spent);
        CHECK.refuses("1 no place", INDEX, "", x -> x.isCough(0));
        CHECK.refuses("1 no word", INDEX, "", x -> x.topicOf(0));
        CHECK.refuses("1 no gap", INDEX, "", x -> x.isTied(0));
        CHECK.refuses("1 no thread", INDEX, "", x -> x.lengthOf(0));
    }

    // 1: a new object has nothing of one that was made before, nor takes from it
    private static void nothingOfAnotherObject() {
        SplicedTalk before = Talks.of("00 1c 15 t0 w60 20");
        SplicedTalk x = new SplicedTalk();
        x.cough(4);
        CHECK.is("1 the new one", Talks.row(x) + " " + x.patience() + " " + x.spent(), "4c 30 0");
        CHECK.is("1 the one before", Talks.row(before) + " " + before.patience() + " " + before.spent(), "00 1c 15 20 87 3");
    }

    // 2: "Says a word, at the end"
    private static void saysAtTheEnd() {
        CHECK.asks("2 first", "59", "59", Talks::row);
        CHECK.asks("2 behind a word", "59 00", "59 00", Talks::row);
        CHECK.asks("2 behind a cough", "5c 5c 00", "5c 5c 00", Talks::row);
        CHECK.asks("2 where a cough was removed", "00 31", "00 2c r1 31", Talks::row);
    }

    // 2: "the gap ahead of it is not tied"
    private static void gapAheadIsNotTied() {
        CHECK.asks("2 behind a tied gap", "t-", "00 15 t0 20", Talks::ties);
        CHECK.asks("2 behind a tied gap and coughs", "t-", "00 15 t0 2c 2c 20", Talks::ties);
        CHECK.asks("2 where tied words moved up", "t-", "0c 0c 00 15 t0 r0 r0 20", Talks::ties);
        CHECK.asks("2 behind a splice", "---", "00 14 s0 20", Talks::ties);
        CHECK.does("2 of the same topic and speaker", false, "00 00 t0 00", x -> x.isTied(1));
    }

    // 2: "Returns its place."
    private static void saysItsPlace() {
        CHECK.does("2 the first place", 0, "", x -> x.say(0, 0));
        CHECK.does("2 coughs count", 2, "0c 1c", x -> x.say(0, 0));
        CHECK.does("2 the last place", 23, "0c 00 1c ".repeat(7) + "0c 00", x -> x.say(0, 0));
        CHECK.does("2 a place that a cough left", 23, "00 ".repeat(23) + "0c r23", x -> x.say(0, 0));
    }

    // 2: "if speaker is not 0 to 5", "if topic is not 0 to 9", "if there are 24 remarks"
    private static void sayRefusals() {
        String calls = "00 0c 15 t0";
        for (int bad : new int[] {-1, 6, LEAST, MOST}) {
            CHECK.refuses("2 speaker " + bad, INDEX, calls, x -> x.say(bad, 0));
            CHECK.refuses("2 speaker as topic " + bad, INDEX, calls, x -> x.say(bad, bad));
        }
        for (int bad : new int[] {-1, 10, LEAST, MOST}) {
            CHECK.refuses("2 topic " + bad, ARGUMENT, calls, x -> x.say(5, bad));
        }
        CHECK.does("2 the least speaker and topic", 3, calls, x -> x.say(0, 0));
        CHECK.does("2 the greatest speaker and topic", 3, calls, x -> x.say(5, 9));
        CHECK.refuses("2 24 words", STATE, Talks.smooth(24), x -> x.say(0, 0));
        CHECK.refuses("2 24 coughs", STATE, "0c ".repeat(24), x -> x.say(0, 0));
        CHECK.refuses("2 23 and a spliced one", STATE, Talks.broken(23) + "s0", x -> x.say(0, 0));
    }

    // 3: "Coughs, at the end.", "Returns the place of the cough."
    private static void coughsAtTheEnd() {
        CHECK.does("3 the first place", 0, "", x -> x.cough(0));
        CHECK.does("3 behind a word", 1, "00", x -> x.cough(0));
        CHECK.does("3 the last place", 23, "0c 00 1c ".repeat(7) + "0c 00", x -> x.cough(0));
        CHECK.asks("3 at the end", "00 2c 15 0c 0c", "00 2c 15 0c 0c", Talks::row);
        CHECK.asks("3 no word", 2, "00 2c 15 0c 0c", SplicedTalk::words);
    }

    // 3: "if speaker is not 0 to 5", "if there are 24 remarks"
    private static void coughRefusals() {
        for (int bad : new int[] {-1, 6, LEAST, MOST}) {
            CHECK.refuses("3 speaker " + bad, INDEX, "00 0c 15 t0", x -> x.cough(bad));
        }
        CHECK.does("3 the least speaker", 1, "00", x -> x.cough(0));
        CHECK.does("3 the greatest speaker", 1, "00", x -> x.cough(5));
        CHECK.refuses("3 24 words", STATE, Talks.smooth(24), x -> x.cough(0));
        CHECK.refuses("3 24 coughs", STATE, "0c ".repeat(24), x -> x.cough(0));
        CHECK.refuses("3 23 and a spliced one", STATE, Talks.broken(23) + "s0", x -> x.cough(0));
    }

    // 4: "Removes a cough; it costs 1 patience."
    private static void removesForOnePatience() {
        CHECK.asks("4 of 30", 29, "0c 0c r0", SplicedTalk::patience);
        CHECK.asks("4 spent", 1, "0c 0c r0", SplicedTalk::spent);
        CHECK.asks("4 the other stays", "1c", "0c 1c r0", Talks::row);
        CHECK.asks("4 room again", 24, "0c ".repeat(24) + "r0 00", SplicedTalk::remarks);
    }

    // 4: "Remarks behind it move up."
    private static void remarksBehindMoveUp() {
        CHECK.asks("4 the first", "11 2c 33 4c", "0c 11 2c 33 4c r0", Talks::row);
        CHECK.asks("4 in the middle", "0c 11 33 4c", "0c 11 2c 33 4c r2", Talks::row);
        CHECK.asks("4 the last", "0c 11 2c 33", "0c 11 2c 33 4c r4", Talks::row);
        CHECK.asks("4 the only one", "", "0c r0", Talks::row);
        CHECK.asks("4 of 24 the first", "00 ".repeat(22) + "15", "2c " + "00 ".repeat(22) + "15 r0", Talks::row);
        CHECK.asks("4 of 24 the last", Talks.broken(23).trim(), Talks.broken(23) + "2c r23", Talks::row);
        CHECK.asks("4 ties go along", "t-t", "0c 00 15 2c 20 35 t0 t2 r0", Talks::ties);
        CHECK.asks("4 a tied gap stays tied", "-t-", "00 15 2c 2c 20 35 t1 r2 r2", Talks::ties);
        CHECK.asks("4 the gap has one fewer", 1, "00 1c 1c 15 r1", x -> x.coughsIn(0));
    }

    // 4: "Returns how many remarks there are then."
    private static void saysHowManyRemarksThen() {
        CHECK.does("4 none", 0, "0c", x -> x.removeCough(0));
        CHECK.does("4 words count", 2, "00 0c 15", x -> x.removeCough(1));
        CHECK.does("4 23", 23, "0c ".repeat(24), x -> x.removeCough(23));
    }

    // 4: "if there is no such place"
    private static void removeNoSuchPlace() {
        for (int bad : new int[] {-1, 3, 4, 23, 24, LEAST, MOST}) {
            CHECK.refuses("4 place " + bad, INDEX, "0c 00 1c", x -> x.removeCough(bad));
        }
        CHECK.refuses("4 no remarks", INDEX, "", x -> x.removeCough(0));
        CHECK.refuses("4 one removed before", INDEX, "0c 1c r1", x -> x.removeCough(1));
        CHECK.refuses("4 place 24 of 24", INDEX, "0c ".repeat(24), x -> x.removeCough(24));
    }

    // 4: "if there is a word"
    private static void removeAWord() {
        CHECK.refuses("4 the first word", STATE, "00 0c 15", x -> x.removeCough(0));
        CHECK.refuses("4 the last word", STATE, "00 0c 15", x -> x.removeCough(2));
        CHECK.refuses("4 a word that moved up", STATE, "0c 15 r0", x -> x.removeCough(0));
        CHECK.refuses("4 a spliced word", STATE, "00 0c 15 s0", x -> x.removeCough(1));
        CHECK.refuses("4 a word of topic 0", STATE, "5c 00", x -> x.removeCough(1));
        CHECK.refuses("4 a word, without patience", STATE, Talks.patience(0) + "00", x -> x.removeCough(0));
    }

    // 4: "or it costs too much"
    private static void removeTooDear() {
        CHECK.does("4 with 1 patience", 0, Talks.patience(1) + "0c", x -> x.removeCough(0));
        CHECK.refuses("4 with 0 patience", STATE, Talks.patience(0) + "00 0c 15", x -> x.removeCough(1));
        CHECK.does("4 with 0 patience and a minute", 2, Talks.patience(0) + "00 0c 15 w1", x -> x.removeCough(1));
    }

    // 5: "Ties a gap; it costs 3 patience."
    private static void tiesForThreePatience() {
        CHECK.asks("5 of 30", 27, "00 15 t0", SplicedTalk::patience);
        CHECK.asks("5 spent", 3, "00 15 t0", SplicedTalk::spent);
        CHECK.asks("5 a smooth one costs as well", 27, "00 00 t0", SplicedTalk::patience);
        CHECK.asks("5 the first alone", "t--", "00 15 20 35 t0", Talks::ties);
        CHECK.asks("5 the last alone", "--t", "00 15 20 35 t2", Talks::ties);
        CHECK.asks("5 with coughs ahead and in it", "-t-", "0c 00 15 1c 1c 20 35 t1", Talks::ties);
        CHECK.does("5 the last of 24 words", 23, Talks.broken(24), x -> x.tie(22));
    }

    // 5: "Returns how many threads there are then."
    private static void saysHowManyThreadsThen() {
        CHECK.does("5 two become one", 1, "00 15", x -> x.tie(0));
        CHECK.does("5 three become two", 2, "00 15 20", x -> x.tie(1));
        CHECK.does("5 a smooth gap", 2, "00 15 15", x -> x.tie(1));
        CHECK.does("5 a polite gap", 2, "00 15 17", x -> x.tie(1));
    }

    // 5: "if there is no such gap"
    private static void tieNoSuchGap() {
        for (int bad : new int[] {-1, 2, 3, 22, 23, 24, LEAST, MOST}) {
            CHECK.refuses("5 gap " + bad, INDEX, "0c 00 15 20 0c", x -> x.tie(bad));
        }
        CHECK.refuses("5 no remarks", INDEX, "", x -> x.tie(0));
        CHECK.refuses("5 no remarks, -1", INDEX, "", x -> x.tie(-1));
        CHECK.refuses("5 one word", INDEX, "00 0c", x -> x.tie(0));
        CHECK.refuses("5 coughs alone", INDEX, "0c 0c", x -> x.tie(0));
        CHECK.refuses("5 gap 23 of 24 words", INDEX, Talks.broken(24), x -> x.tie(23));
    }

    // 5: "if it is tied"
    private static void tieATiedGap() {
        CHECK.refuses("5 at once again", STATE, "00 15 t0", x -> x.tie(0));
        CHECK.refuses("5 after others", STATE, "00 15 20 t0 t1", x -> x.tie(0));
        CHECK.refuses("5 after it moved up", STATE, "0c 00 1c 15 t0 r0 r1", x -> x.tie(0));
        CHECK.refuses("5 after it moved on", STATE, "00 14 20 t1 s0", x -> x.tie(2));
        CHECK.refuses("5 without patience too", STATE, Talks.patience(3) + "00 15 t0", x -> x.tie(0));
    }

    // 5: "or it costs too much"
    private static void tieTooDear() {
        CHECK.does("5 with 3 patience", 1, Talks.patience(3) + "00 15", x -> x.tie(0));
        CHECK.asks("5 with 3 patience, then", 0, Talks.patience(3) + "00 15 t0", SplicedTalk::patience);
        CHECK.refuses("5 with 2 patience", STATE, Talks.patience(2) + "00 15", x -> x.tie(0));
        CHECK.refuses("5 with 0 patience", STATE, Talks.patience(0) + "00 15", x -> x.tie(0));
        CHECK.refuses("5 a smooth one", STATE, Talks.patience(2) + "00 00", x -> x.tie(0));
    }

    // 6: "Splices a topic into a gap; it costs 2 patience."
    private static void splicesForTwoPatience() {
        CHECK.asks("6 of 30", 28, "00 15 s0", SplicedTalk::patience);
        CHECK.asks("6 spent", 2, "00 15 s0", SplicedTalk::spent);
        CHECK.asks("6 into a smooth gap as well", "00 00 10 28", "00 10 s0", x -> Talks.row(x) + " " + x.patience());
        CHECK.asks("6 into a polite gap as well", "00 01 12 28", "00 12 s0", x -> Talks.row(x) + " " + x.patience());
    }

    // 6: "Right behind its first word a new one stands then"
    private static void newWordRightBehindTheFirst() {
        CHECK.asks("6 the first gap", "00 02 14 28", "00 14 28 s0", Talks::row);
        CHECK.asks("6 the last gap", "00 14 16 28", "00 14 28 s1", Talks::row);
        CHECK.asks("6 ahead of the coughs", "5c 00 02 3c 4c 14 5c", "5c 00 3c 4c 14 5c s0", Talks::row);
        CHECK.asks("6 at the last room", Talks.smooth(22) + "32 45", Talks.smooth(22) + "45 s21", Talks::row);
        CHECK.asks("6 into gap 0 of 23 words", "00 02 15 " + "15 ".repeat(20) + "20", "00 " + "15 ".repeat(21) + "20 s0", Talks::row);
    }

    // 6: "of the speaker of this word"
    private static void newWordOfTheFirstSpeaker() {
        for (int one = 0; one < 6; one++) {
            int speaker = one;
            String two = speaker + "0 3c " + (5 - speaker) + "4 s0";
            CHECK.asks("6 speaker", speaker, two, x -> x.speakerAt(1));
            CHECK.asks("6 the cough's stays", 3, two, x -> x.speakerAt(2));
            CHECK.asks("6 the next word's stays", 5 - speaker, two, x -> x.speakerAt(3));
        }
    }

    private static void topic(String what, int due, String two) {
        CHECK.does(what + ", " + two, due, two, x -> x.splice(0));
        CHECK.asks(what + ", " + two + ", stands then", due, two + " s0", x -> x.topicOf(1));
    }

    // 6: "with the topic that lies half as far from that of this word on the shorter way to that of the next one",
    // "Returns the topic of the new word."
    private static void topicHalfAsFar() {
        topic("6 none apart", 7, "07 17");
        topic("6 upwards", 3, "02 14");
        topic("6 downwards", 3, "04 12");
        topic("6 upwards, 4", 4, "02 16");
        topic("6 downwards, 4", 4, "06 12");
        topic("6 upwards over 9 to 0", 0, "09 11");
        topic("6 downwards over 0 to 9", 0, "01 19");
        topic("6 upwards up to 9", 9, "08 10");
        topic("6 downwards down to 9", 9, "00 18");
        topic("6 upwards from 9", 1, "09 13");
        topic("6 downwards from 0", 8, "00 16");
    }

    // 6: "(the half is cut)"
    private static void halfIsCut() {
        topic("6 half of 1 upwards", 4, "04 15");
        topic("6 half of 1 downwards", 4, "04 13");
        topic("6 half of 1 over 9 to 0", 9, "09 10");
        topic("6 half of 1 over 0 to 9", 0, "00 19");
        topic("6 half of 3 upwards", 5, "04 17");
        topic("6 half of 3 downwards", 3, "04 11");
        topic("6 half of 3 over 9 to 0", 9, "08 11");
        topic("6 half of 3 over 0 to 9", 0, "01 18");
        topic("6 half of 5", 6, "04 19");
    }

    // 6: "if both are 5 apart, on the way upwards"
    private static void fiveApartUpwards() {
        int[] due = {2, 3, 4, 5, 6, 7, 8, 9, 0, 1};
        for (int from = 0; from < 10; from++) {
            topic("6 5 apart", due[from], "0" + from + " 1" + (from + 5) % 10);
        }
        topic("6 4 upwards", 2, "00 14");
        topic("6 4 downwards", 8, "00 16");
    }

    // 6: "The gap between both is not tied"
    private static void gapAheadOfTheNewWord() {
        CHECK.asks("6 not tied", false, "00 1c 15 s0", x -> x.isTied(0));
        CHECK.asks("6 nor behind a tied one", false, "00 15 t0 20 s1", x -> x.isTied(1));
        CHECK.asks("6 nor where a tied word stood", "-t", "00 15 20 t1 s0", x -> Talks.ties(x).substring(1));
        CHECK.asks("6 without coughs", 0, "00 1c 1c 15 s0", x -> x.coughsIn(0));
        CHECK.does("6 can be tied then", 2, "00 1c 1c 15 s0", x -> x.tie(0));
    }

    // 6: "that behind the new one has the coughs, and is not tied"
    private static void gapBehindTheNewWord() {
        CHECK.asks("6 no coughs", 0, "00 15 s0", x -> x.coughsIn(1));
        CHECK.asks("6 one", 1, "00 1c 15 s0", x -> x.coughsIn(1));
        CHECK.asks("6 all", 21, "00 " + "1c ".repeat(21) + "15 s0", x -> x.coughsIn(1));
        CHECK.asks("6 not tied", false, "00 1c 15 s0", x -> x.isTied(1));
        CHECK.asks("6 nor ahead of a tied one", false, "00 15 20 t1 s0", x -> x.isTied(1));
        CHECK.does("6 can be spliced then", 3, "00 1c 15 s0", x -> x.splice(1));
    }

    // 6: the other gaps keep their ties and coughs
    private static void otherGapsStayAsTheyAre() {
        CHECK.asks("6 ahead and behind", "t--t", "00 15 20 35 t0 t2 s1", Talks::ties);
        CHECK.asks("6 coughs ahead", 1, "00 1c 15 20 2c 2c 35 s1", x -> x.coughsIn(0));
        CHECK.asks("6 coughs behind", 2, "00 1c 15 20 2c 2c 35 s1", x -> x.coughsIn(3));
        CHECK.asks("6 twice into the first", "00 01 02 15", "00 15 s0 s0", Talks::row);
        CHECK.asks("6 twice into the last", "00 02 03 15", "00 15 s0 s1", Talks::row);
    }

    // 6: "if there is no such gap"
    private static void spliceNoSuchGap() {
        for (int bad : new int[] {-1, 2, 3, 22, 23, 24, LEAST, MOST}) {
            CHECK.refuses("6 gap " + bad, INDEX, "0c 00 15 20 0c", x -> x.splice(bad));
        }
        CHECK.refuses("6 no remarks", INDEX, "", x -> x.splice(0));
        CHECK.refuses("6 no remarks, -1", INDEX, "", x -> x.splice(-1));
        CHECK.refuses("6 one word", INDEX, "00 0c", x -> x.splice(0));
        CHECK.refuses("6 coughs alone", INDEX, "0c 0c", x -> x.splice(0));
        CHECK.refuses("6 gap 23 of 24 words", INDEX, Talks.broken(24), x -> x.splice(23));
    }

    // 6: "if it is tied"
    private static void spliceATiedGap() {
        CHECK.refuses("6 a tied gap", STATE, "00 1c 15 t0", x -> x.splice(0));
        CHECK.refuses("6 the last, tied", STATE, "00 15 20 t1", x -> x.splice(1));
        CHECK.refuses("6 half of a spliced one", STATE, "00 15 s0 t1", x -> x.splice(1));
        CHECK.does("6 beside a tied one", 7, "00 15 20 t0", x -> x.splice(1));
    }

    // 6: "there are 24 remarks"
    private static void spliceWithoutRoom() {
        CHECK.refuses("6 24 words, the first gap", STATE, Talks.broken(24), x -> x.splice(0));
        CHECK.refuses("6 24 words, the last gap", STATE, Talks.broken(24), x -> x.splice(22));
        CHECK.refuses("6 2 words and 22 coughs", STATE, "00 15 " + "0c ".repeat(22), x -> x.splice(0));
        CHECK.does("6 23 remarks, the first gap", 2, Talks.broken(23), x -> x.splice(0));
        CHECK.does("6 23 remarks, the last gap", 7, Talks.broken(23), x -> x.splice(21));
        CHECK.does("6 when a cough has made room", 2, "00 15 " + "0c ".repeat(22) + "r5", x -> x.splice(0));
    }

    // 6: "or it costs too much"
    private static void spliceTooDear() {
        CHECK.does("6 with 2 patience", 2, Talks.patience(2) + "00 15", x -> x.splice(0));
        CHECK.asks("6 with 2 patience, then", 0, Talks.patience(2) + "00 15 s0", SplicedTalk::patience);
        CHECK.refuses("6 with 1 patience", STATE, Talks.patience(1) + "00 1c 15", x -> x.splice(0));
        CHECK.refuses("6 with 0 patience", STATE, Talks.patience(0) + "00 1c 15", x -> x.splice(0));
    }

    // 7: "Waits: patience is 1 more for each minute", "Returns the patience then."
    private static void oneMoreForEachMinute() {
        CHECK.does("7 1 minute", 31, "", x -> x.rest(1));
        CHECK.does("7 60 minutes", 90, "", x -> x.rest(60));
        CHECK.does("7 60 minutes, from 0", 60, Talks.patience(0), x -> x.rest(60));
        CHECK.asks("7 it is kept", 90, "w60", SplicedTalk::patience);
        CHECK.asks("7 nothing is spent, nothing comes back", 1, "0c r0 w60", SplicedTalk::spent);
    }

    // 7: "at most 99"
    private static void atMost99() {
        CHECK.does("7 98 and 1", 99, "w60 w8", x -> x.rest(1));
        CHECK.does("7 98 and 2", 99, "w60 w8", x -> x.rest(2));
        CHECK.does("7 99 and 1", 99, "w60 w9", x -> x.rest(1));
        CHECK.does("7 99 and 60", 99, "w60 w9", x -> x.rest(60));
        CHECK.does("7 90 and 60", 99, "w60", x -> x.rest(60));
        CHECK.asks("7 90 and 60, kept", 99, "w60 w60", SplicedTalk::patience);
    }

    // 7: "if minutes is not 1 to 60"
    private static void restRefusals() {
        for (int bad : new int[] {0, -1, 61, 62, 99, LEAST, MOST}) {
            CHECK.refuses("7 minutes " + bad, ARGUMENT, "00 1c 15 t0", x -> x.rest(bad));
            CHECK.refuses("7 minutes, at 99 patience, " + bad, ARGUMENT, "w60 w60", x -> x.rest(bad));
            CHECK.refuses("7 minutes, at 0 patience, " + bad, ARGUMENT, Talks.patience(0), x -> x.rest(bad));
        }
    }
}
