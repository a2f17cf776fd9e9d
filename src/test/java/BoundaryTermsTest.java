/** For each sentence under 'What it is' and 'Terms' of ../shared/DOC.md that names a boundary, a test of its own. */
public final class BoundaryTermsTest {
    private static final Check CHECK = new Check("BoundaryTermsTest");
    private static final Class<IndexOutOfBoundsException> INDEX = IndexOutOfBoundsException.class;
    private static final Class<IllegalArgumentException> ARGUMENT = IllegalArgumentException.class;
    private static final Class<IllegalStateException> STATE = IllegalStateException.class;
    private static final int[] NO_SPEAKERS = {-1, 6, 7, 24, Integer.MIN_VALUE, Integer.MAX_VALUE};
    private static final int[] NO_TOPICS = {-1, 10, 11, 24, Integer.MIN_VALUE, Integer.MAX_VALUE};

    public static void main(String[] args) {
        usedFor512Calls();
        atMost24Remarks();
        placesFrom0();
        speakers0To5();
        topics0To9();
        topicsInARing();
        wordsFrom0WithoutCoughs();
        gapsBetweenWords();
        coughsBetweenTheWords();
        notTiedAtFirst();
        strain();
        smoothIfTied();
        smoothUpToStrain1();
        politeAtStrain2();
        politeUpTo4OfOneSpeaker();
        wordsHangTogether();
        threadsFrom0InTheirOrder();
        patience30AtFirst();
        patienceDownTo0();
        patienceUpTo99();
        whatCostsMoreCannotBeDone();
        theExceptionNamedFirst();
        CHECK.exit();
    }

    // "An object is used for at most 512 calls": the last of them answers as the first.
    private static void usedFor512Calls() {
        SplicedTalk x = new SplicedTalk();
        for (int round = 0; round < 170; round++) {
            CHECK.is("call " + (3 * round + 1), x.cough(round % 6), 0);
            CHECK.is("call " + (3 * round + 2), x.removeCough(0), 0);
            CHECK.is("call " + (3 * round + 3), x.rest(1), 30);
        }
        CHECK.is("call 511", x.say(0, 0), 0);
        CHECK.is("call 512", x.spent(), 170);
    }

    // "A row of at most 24 remarks"
    private static void atMost24Remarks() {
        String[] almost = {"00 ".repeat(23), "0c ".repeat(23), "0c 15 ".repeat(11) + "0c ", "15 ".repeat(22) + "s3"};
        for (String calls : almost) {
            CHECK.does("23 remarks", 23, calls, SplicedTalk::remarks);
            CHECK.does("a 24th, a word", 23, calls, x -> x.say(5, 9));
            CHECK.does("a 24th, a cough", 23, calls, x -> x.cough(5));
            for (String last : new String[] {" 59", " 5c"}) {
                CHECK.asks("24 remarks", 24, calls + last, SplicedTalk::remarks);
                CHECK.refuses("a 25th, a word", STATE, calls + last, x -> x.say(5, 9));
                CHECK.refuses("a 25th, a cough", STATE, calls + last, x -> x.cough(5));
            }
        }
        CHECK.refuses("a 25th, a splice", STATE, "00 ".repeat(24), x -> x.splice(0));
        CHECK.refuses("a 25th, a splice behind coughs", STATE, "00 15 " + "0c ".repeat(22), x -> x.splice(0));
        CHECK.refuses("a 25th, behind a splice", STATE, "00 ".repeat(23) + "s21", x -> x.say(0, 0));
    }

    // "at places from 0"
    private static void placesFrom0() {
        CHECK.does("the first word", 0, "", x -> x.say(1, 1));
        CHECK.does("the first cough", 0, "", x -> x.cough(1));
        CHECK.asks("at place 0 the first", 4, "43 5c", x -> x.speakerAt(0));
        CHECK.asks("at place 1 the second", 5, "43 5c", x -> x.speakerAt(1));
        CHECK.refuses("ahead of place 0", INDEX, "43 5c", x -> x.speakerAt(-1));
        CHECK.refuses("no place 2", INDEX, "43 5c", x -> x.speakerAt(2));
    }

    // "each is a word or a cough, of one of the speakers 0 to 5"
    private static void speakers0To5() {
        for (int one = 0; one < 6; one++) {
            int speaker = one;
            CHECK.asks("speaker of a word", speaker, speaker + "0", x -> x.speakerAt(0));
            CHECK.asks("speaker of a cough", speaker, speaker + "c", x -> x.speakerAt(0));
        }
        for (int bad : NO_SPEAKERS) {
            for (String calls : new String[] {"", "00 0c 11", "0c ".repeat(23)}) {
                CHECK.refuses("no speaker " + bad + " says", INDEX, calls, x -> x.say(bad, 0));
                CHECK.refuses("no speaker " + bad + " coughs", INDEX, calls, x -> x.cough(bad));
            }
        }
    }

    // "A word has a topic, 0 to 9"
    private static void topics0To9() {
        for (int one = 0; one < 10; one++) {
            int topic = one;
            CHECK.asks("topic", topic, "0" + topic, x -> x.topicOf(0));
        }
        for (int bad : NO_TOPICS) {
            for (String calls : new String[] {"", "00 0c 11", "0c ".repeat(23)}) {
                CHECK.refuses("no topic " + bad, ARGUMENT, calls, x -> x.say(0, bad));
            }
        }
    }

    // "topics lie in a ring, so 9 and 0 are beside each other, and two are as far apart as it is the shorter way
    // round, 0 to 5"
    private static void topicsInARing() {
        CHECK.asks("9 and 0", 1, "09 10", x -> x.strainOf(0));
        CHECK.asks("0 and 9", 1, "00 19", x -> x.strainOf(0));
        int[] apart = {0, 1, 2, 3, 4, 5, 4, 3, 2, 1};
        for (int from = 0; from < 10; from++) {
            for (int up = 0; up < 10; up++) {
                String two = "0" + from + " 1" + (from + up) % 10;
                CHECK.does("apart", apart[up], two, x -> x.strainOf(0));
            }
        }
    }

    // "Words are numbered from 0, without coughs."
    private static void wordsFrom0WithoutCoughs() {
        String calls = "0c 1c 23 3c 34 45";
        CHECK.asks("word 0", 2, calls, x -> x.placeOf(0));
        CHECK.asks("word 1", 4, calls, x -> x.placeOf(1));
        CHECK.asks("word 2", 5, calls, x -> x.placeOf(2));
        CHECK.refuses("no word 3", INDEX, calls, x -> x.placeOf(3));
        CHECK.refuses("no word -1", INDEX, calls, x -> x.placeOf(-1));
        CHECK.refuses("no word among coughs", INDEX, "0c 1c", x -> x.placeOf(0));
        CHECK.asks("word 23", 23, "00 ".repeat(24), x -> x.placeOf(23));
    }

    // "The gap g lies between the word g and the word g + 1"
    private static void gapsBetweenWords() {
        CHECK.asks("gap 0", 2, "00 12 25", x -> x.strainOf(0));
        CHECK.asks("gap 1", 3, "00 12 25", x -> x.strainOf(1));
        CHECK.refuses("no gap behind the last word", INDEX, "00 12 25 0c", x -> x.strainOf(2));
        CHECK.refuses("no gap ahead of the first word", INDEX, "0c 00 12 25", x -> x.strainOf(-1));
        CHECK.refuses("no gap without remarks", INDEX, "", x -> x.strainOf(0));
        CHECK.refuses("no gap -1 without remarks", INDEX, "", x -> x.strainOf(-1));
        CHECK.refuses("no gap among coughs", INDEX, "0c 0c 0c", x -> x.strainOf(0));
        CHECK.refuses("no gap with one word", INDEX, "0c 00 0c", x -> x.strainOf(0));
        CHECK.asks("gap 22, of 24 words", 5, Talks.broken(24), x -> x.strainOf(22));
        CHECK.refuses("no gap 23", INDEX, Talks.broken(24), x -> x.strainOf(23));
    }

    // "it has all coughs that stand between them"
    private static void coughsBetweenTheWords() {
        CHECK.asks("none", 0, "0c 00 11 2c", x -> x.coughsIn(0));
        CHECK.asks("not those ahead and behind", 1, "0c 0c 00 1c 11 2c 2c 2c", x -> x.coughsIn(0));
        CHECK.asks("not those of the next gap", 1, "00 1c 11 2c 2c 22", x -> x.coughsIn(0));
        CHECK.asks("those of the next gap", 2, "00 1c 11 2c 2c 22", x -> x.coughsIn(1));
        CHECK.asks("all that there is room for", 22, "00 " + "1c ".repeat(22) + "11", x -> x.coughsIn(0));
        CHECK.does("those behind the last word, once a word follows", 3, "00 11 2c 2c 2c 20", x -> x.coughsIn(1));
    }

    // "and is tied, or not (not, at first)"
    private static void notTiedAtFirst() {
        CHECK.asks("as words are said", "--", "00 1c 15 15", Talks::ties);
        CHECK.asks("one tied", "-t", "00 1c 15 15 t1", Talks::ties);
        CHECK.asks("behind a tied one", "t--", "00 15 t0 1c 10 15", Talks::ties);
        CHECK.asks("behind all tied ones", "tt-", "00 15 20 t0 t1 35", Talks::ties);
        CHECK.asks("after coughs behind were removed", "t-", "00 15 5c 5c t0 r3 r2 25", Talks::ties);
        CHECK.asks("where a tied word stood before", "t-", "0c 00 15 t0 r0 20", Talks::ties);
    }

    // "Its strain is how far apart the topics of both words are, and 1 more for each of its coughs."
    private static void strain() {
        for (int coughs = 0; coughs <= 22; coughs++) {
            String between = " 3c".repeat(coughs);
            CHECK.asks("none apart, " + coughs + " coughs", coughs, "07" + between + " 17", x -> x.strainOf(0));
            CHECK.asks("5 apart, " + coughs + " coughs", 5 + coughs, "07" + between + " 12", x -> x.strainOf(0));
        }
        CHECK.asks("a tied one's as well", 6, "00 1c 15 t0", x -> x.strainOf(0));
    }

    private static void kind(String what, String calls, String due) {
        CHECK.asks(what + " smooth", due.equals("smooth"), calls, x -> x.isSmooth(0));
        CHECK.asks(what + " polite", due.equals("polite"), calls, x -> x.isPolite(0));
        CHECK.asks(what + " broken", due.equals("broken"), calls, x -> x.isBroken(0));
    }

    // "A gap is smooth, if it is tied"
    private static void smoothIfTied() {
        for (String two : new String[] {"00 10", "00 11", "00 12", "00 13", "00 04", "00 05", "00 15", "00 0c 15"}) {
            kind("tied, " + two, two + " t0", "smooth");
        }
        kind("tied, of strain 27", "00 " + "1c ".repeat(22) + "15 t0", "smooth");
        kind("tied, the coughs come off", "00 1c 15 t0 r1", "smooth");
    }

    // "or its strain is 0 or 1"
    private static void smoothUpToStrain1() {
        for (String two : new String[] {"00 10", "00 00", "00 11", "09 10", "00 19", "00 01", "00 2c 10", "00 0c 00"}) {
            kind("strain 0 or 1, " + two, two, "smooth");
        }
        for (String two : new String[] {"00 12", "00 02", "00 1c 11", "00 1c 1c 10", "09 11", "00 0c 01"}) {
            kind("strain 2, " + two, two, "polite");
        }
    }

    // "otherwise it is polite, if its strain is 2"
    private static void politeAtStrain2() {
        for (String two : new String[] {"00 12", "01 19", "00 0c 11", "00 1c 1c 10"}) {
            kind("strain 2, two speakers, " + two, two, "polite");
        }
        for (String two : new String[] {"00 13", "01 18", "00 0c 12", "00 0c 0c 11", "00 1c 1c 1c 10", "00 14", "00 0c 13"}) {
            kind("strain 3 or 4, two speakers, " + two, two, "broken");
        }
    }

    // "or if it is at most 4 and both words are of the same speaker; otherwise it is broken"
    private static void politeUpTo4OfOneSpeaker() {
        for (String two : new String[] {"50 53", "50 54", "52 58", "50 4c 53", "50 4c 4c 52", "50 4c 4c 4c 4c 50"}) {
            kind("strain 3 or 4, one speaker, " + two, two, "polite");
        }
        for (String two : new String[] {"50 55", "50 5c 54", "50 5c 5c 5c 5c 5c 50", "50 5c 55"}) {
            kind("strain 5 or 6, one speaker, " + two, two, "broken");
        }
        kind("strain 27, one speaker", "50 " + "5c ".repeat(22) + "55", "broken");
        kind("the cough's speaker counts not", "40 5c 53", "broken");
        kind("the speaker of the next word but one counts not", "40 53 43", "broken");
    }

    // "Words hang together over gaps that are not broken; a thread is as many words one behind the other as hang
    // together."
    private static void wordsHangTogether() {
        CHECK.asks("over smooth and polite gaps", 1, "00 11 13 17", SplicedTalk::threads);
        CHECK.asks("over a tied gap", 1, "00 15 t0", SplicedTalk::threads);
        CHECK.asks("not over a broken gap", 2, "00 15", SplicedTalk::threads);
        CHECK.asks("one word by itself", 1, "0c 00 0c", SplicedTalk::threads);
        CHECK.asks("no words, no thread", 0, "0c 0c", SplicedTalk::threads);
        CHECK.asks("24 words in one", 24, Talks.smooth(24), x -> x.lengthOf(0));
        CHECK.asks("24 words in 24", 24, Talks.broken(24), SplicedTalk::threads);
        CHECK.asks("of the same topic, but not one behind the other", 3, "00 15 20", SplicedTalk::threads);
    }

    // "Threads are numbered from 0 in their order."
    private static void threadsFrom0InTheirOrder() {
        CHECK.asks("the first", 0, "0c 00 01 15 20", x -> x.threadOf(0));
        CHECK.asks("the first's last word", 0, "0c 00 01 15 20", x -> x.threadOf(1));
        CHECK.asks("the second", 1, "0c 00 01 15 20", x -> x.threadOf(2));
        CHECK.asks("the third", 2, "0c 00 01 15 20", x -> x.threadOf(3));
        CHECK.asks("the 24th", 23, Talks.broken(24), x -> x.threadOf(23));
    }

    // "Patience: 0 to 99 (30, at first)."
    private static void patience30AtFirst() {
        CHECK.asks("at first", 30, "", SplicedTalk::patience);
        CHECK.asks("remarks cost none", 30, "00 1c 15", SplicedTalk::patience);
        CHECK.asks("of the next object too", 30, "", SplicedTalk::patience);
    }

    // The lower end of "Patience: 0 to 99"
    private static void patienceDownTo0() {
        CHECK.asks("ties down to 0", 0, Talks.smooth(11) + "t0 t1 t2 t3 t4 t5 t6 t7 t8 t9", SplicedTalk::patience);
        CHECK.asks("splices down to 0", 0, "00 00 " + "s0 ".repeat(15), SplicedTalk::patience);
        CHECK.asks("coughs down to 0", 0, Talks.patience(0), SplicedTalk::patience);
        CHECK.refuses("not below 0", STATE, Talks.patience(0) + "0c", x -> x.removeCough(0));
    }

    // The upper end of "Patience: 0 to 99"
    private static void patienceUpTo99() {
        CHECK.does("up to 99", 99, "w60", x -> x.rest(9));
        CHECK.does("not above 99", 99, "w60", x -> x.rest(10));
        CHECK.asks("not above 99 then", 99, "w60 w60", SplicedTalk::patience);
        CHECK.does("no minute is kept beyond 99", 98, "w60 w60 0c r0", SplicedTalk::patience);
    }

    // "What costs more than there is cannot be done."
    private static void whatCostsMoreCannotBeDone() {
        CHECK.does("1 of 1 for a cough", 0, Talks.patience(1) + "0c", x -> x.removeCough(0));
        CHECK.refuses("1 of 0 for a cough", STATE, Talks.patience(0) + "0c", x -> x.removeCough(0));
        CHECK.does("2 of 2 for a splice", 2, Talks.patience(2) + "00 15", x -> x.splice(0));
        CHECK.refuses("2 of 1 for a splice", STATE, Talks.patience(1) + "00 15", x -> x.splice(0));
        CHECK.refuses("2 of 0 for a splice", STATE, Talks.patience(0) + "00 15", x -> x.splice(0));
        CHECK.does("3 of 3 for a tie", 1, Talks.patience(3) + "00 15", x -> x.tie(0));
        CHECK.refuses("3 of 2 for a tie", STATE, Talks.patience(2) + "00 15", x -> x.tie(0));
        CHECK.refuses("3 of 1 for a tie", STATE, Talks.patience(1) + "00 15", x -> x.tie(0));
        CHECK.refuses("3 of 0 for a tie", STATE, Talks.patience(0) + "00 15", x -> x.tie(0));
        CHECK.asks("1 of 1, then", 0, Talks.patience(1) + "0c r0", SplicedTalk::patience);
        CHECK.asks("2 of 2, then", 0, Talks.patience(2) + "00 15 s0", SplicedTalk::patience);
        CHECK.asks("3 of 3, then", 0, Talks.patience(3) + "00 15 t0", SplicedTalk::patience);
    }

    // "If several exceptions apply, the one that is named first is thrown."
    private static void theExceptionNamedFirst() {
        String full = Talks.broken(24);
        CHECK.refuses("speaker ahead of topic", INDEX, "", x -> x.say(6, 10));
        CHECK.refuses("speaker ahead of room", INDEX, full, x -> x.say(-1, 0));
        CHECK.refuses("speaker ahead of topic and room", INDEX, full, x -> x.say(-1, -1));
        CHECK.refuses("topic ahead of room", ARGUMENT, full, x -> x.say(0, 10));
        CHECK.refuses("a cough's speaker ahead of room", INDEX, full, x -> x.cough(6));
        CHECK.refuses("place ahead of cost", INDEX, Talks.patience(0) + "0c", x -> x.removeCough(1));
        CHECK.refuses("place ahead of cost, no remarks", INDEX, Talks.patience(0), x -> x.removeCough(0));
        CHECK.refuses("gap ahead of cost, a tie", INDEX, Talks.patience(0) + "00 15", x -> x.tie(1));
        CHECK.refuses("gap ahead of cost, a splice", INDEX, Talks.patience(0) + "00 15", x -> x.splice(1));
        CHECK.refuses("gap ahead of room, a splice", INDEX, full, x -> x.splice(23));
        for (int bad : new int[] {-1, 1, 2, 23, 24, Integer.MIN_VALUE, Integer.MAX_VALUE}) {
            CHECK.refuses("gap ahead of a tied one, a tie at " + bad, INDEX, "00 15 t0", x -> x.tie(bad));
            CHECK.refuses("gap ahead of a tied one, a splice at " + bad, INDEX, "00 15 t0", x -> x.splice(bad));
            CHECK.refuses("gap ahead of a tied one, asked at " + bad, INDEX, "00 15 t0", x -> x.brokenAfterSplice(bad));
        }
        CHECK.refuses("a speaker ahead of a topic, asked", INDEX, "00", x -> x.wouldBreak(6, 10));
    }
}
