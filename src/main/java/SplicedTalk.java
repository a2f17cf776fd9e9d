/** Repairers of a broken conversation. */
public final class SplicedTalk {
    private static final int ROOM = 24;
    private static final int SPEAKERS = 6;
    private static final int TOPICS = 10;
    private static final int COUGH = -1;

    private static final int MOST_PATIENCE = 99;
    private static final int FIRST_PATIENCE = 30;
    private static final int LONGEST_REST = 60;
    private static final int REMOVE_COST = 1;
    private static final int SPLICE_COST = 2;
    private static final int TIE_COST = 3;

    private static final int SMOOTH = 0;
    private static final int POLITE = 1;
    private static final int BROKEN = 2;
    private static final int SMOOTH_STRAIN = 1;
    private static final int POLITE_STRAIN = 2;
    private static final int OWN_POLITE_STRAIN = 4;

    private static final long FIRST_SUM = 1997L;
    private static final long SUM_FACTOR = 31L;

    // The remarks, by place. A tie stands with the word ahead of its gap, so that it moves along.
    private final int[] speakers;
    private final int[] topics;
    private final int[] ties;
    private int remarkCount;

    // Follow from the remarks; recount() makes them anew after each change.
    private final int[] wordPlaces;
    private final int[] wordThreads;
    private int wordCount;
    private int threadCount;

    private int patienceLeft;
    private int patienceSpent;

    public SplicedTalk() {
        speakers = new int[ROOM];
        topics = new int[ROOM];
        ties = new int[ROOM];
        wordPlaces = new int[ROOM];
        wordThreads = new int[ROOM];
        patienceLeft = FIRST_PATIENCE;
    }

    // ---- remarks

    public int say(int speaker, int topic)
            throws IndexOutOfBoundsException, IllegalArgumentException, IllegalStateException {
        requireSpeaker(speaker);
        requireTopic(topic);
        requireRoom();
        return append(speaker, topic);
    }

    public int cough(int speaker) throws IndexOutOfBoundsException, IllegalStateException {
        requireSpeaker(speaker);
        requireRoom();
        return append(speaker, COUGH);
    }

    // ---- repairs

    public int removeCough(int place) throws IndexOutOfBoundsException, IllegalStateException {
        requirePlace(place);
        if (!coughStandsAt(place)) {
            throw new IllegalStateException("there is a word");
        }
        requirePatience(REMOVE_COST);
        pay(REMOVE_COST);
        moveUpBehind(place);
        recount();
        return remarkCount;
    }

    public int tie(int gap) throws IndexOutOfBoundsException, IllegalStateException {
        requireGap(gap);
        requireUntied(gap);
        requirePatience(TIE_COST);
        pay(TIE_COST);
        write(ties, read(wordPlaces, gap), 1);
        recount();
        return threadCount;
    }

    public int splice(int gap) throws IndexOutOfBoundsException, IllegalStateException {
        requireGap(gap);
        requireUntied(gap);
        requireRoom();
        requirePatience(SPLICE_COST);
        pay(SPLICE_COST);
        int speaker = speakerOfWord(gap);
        int topic = topicBetween(topicOfWord(gap), topicOfWord(gap + 1));
        int place = read(wordPlaces, gap) + 1;
        makeRoomAt(place);
        put(place, speaker, topic);
        recount();
        return topic;
    }

    public int rest(int minutes) throws IllegalArgumentException {
        if (minutes < 1 || minutes > LONGEST_REST) {
            throw new IllegalArgumentException("minutes is not 1 to 60");
        }
        patienceLeft = Math.min(MOST_PATIENCE, patienceLeft + minutes);
        return patienceLeft;
    }

    // ---- what there is

    public int remarks() {
        return remarkCount;
    }

    public int words() {
        return wordCount;
    }

    public int coughs() {
        return remarkCount - wordCount;
    }

    public int patience() {
        return patienceLeft;
    }

    public int spent() {
        return patienceSpent;
    }

    public boolean isCough(int place) throws IndexOutOfBoundsException {
        requirePlace(place);
        return coughStandsAt(place);
    }

    public int speakerAt(int place) throws IndexOutOfBoundsException {
        requirePlace(place);
        return read(speakers, place);
    }

    public int placeOf(int word) throws IndexOutOfBoundsException {
        requireWord(word);
        return read(wordPlaces, word);
    }

    public int topicOf(int word) throws IndexOutOfBoundsException {
        requireWord(word);
        return topicOfWord(word);
    }

    public int wordsOf(int speaker) throws IndexOutOfBoundsException {
        requireSpeaker(speaker);
        int found = 0;
        for (int word = 0; word < wordCount; word++) {
            if (speakerOfWord(word) == speaker) {
                found++;
            }
        }
        return found;
    }

    // ---- gaps

    public int coughsIn(int gap) throws IndexOutOfBoundsException {
        requireGap(gap);
        return coughsOfGap(gap);
    }

    public int strainOf(int gap) throws IndexOutOfBoundsException {
        requireGap(gap);
        return strainOfGap(gap);
    }

    public boolean isTied(int gap) throws IndexOutOfBoundsException {
        requireGap(gap);
        return gapTied(gap);
    }

    public boolean isSmooth(int gap) throws IndexOutOfBoundsException {
        requireGap(gap);
        return kindOfGap(gap) == SMOOTH;
    }

    public boolean isPolite(int gap) throws IndexOutOfBoundsException {
        requireGap(gap);
        return kindOfGap(gap) == POLITE;
    }

    public boolean isBroken(int gap) throws IndexOutOfBoundsException {
        requireGap(gap);
        return kindOfGap(gap) == BROKEN;
    }

    public int brokenGaps() {
        return gapsOfKind(BROKEN);
    }

    public int politeGaps() {
        return gapsOfKind(POLITE);
    }

    // ---- threads

    public int threads() {
        return threadCount;
    }

    public int threadOf(int word) throws IndexOutOfBoundsException {
        requireWord(word);
        return threadOfWord(word);
    }

    public int lengthOf(int thread) throws IndexOutOfBoundsException {
        requireThread(thread);
        return wordsInThread(thread);
    }

    public int longestThread() {
        int longest = -1;
        int mostWords = 0;
        for (int thread = 0; thread < threadCount; thread++) {
            int length = wordsInThread(thread);
            if (length > mostWords) {
                mostWords = length;
                longest = thread;
            }
        }
        return longest;
    }

    public int threadsOf(int speaker) throws IndexOutOfBoundsException {
        requireSpeaker(speaker);
        int found = 0;
        int lastFound = -1;
        for (int word = 0; word < wordCount; word++) {
            int thread = threadOfWord(word);
            if (speakerOfWord(word) == speaker && thread != lastFound) {
                lastFound = thread;
                found++;
            }
        }
        return found;
    }

    public int topicsIn(int thread) throws IndexOutOfBoundsException {
        requireThread(thread);
        int seen = 0;
        for (int word = 0; word < wordCount; word++) {
            if (threadOfWord(word) == thread) {
                seen |= 1 << topicOfWord(word);
            }
        }
        return Integer.bitCount(seen);
    }

    // ---- what would be

    public int costOfMending(int gap) throws IndexOutOfBoundsException {
        requireGap(gap);
        return mendingCost(gap);
    }

    public int costOfAll() {
        int cost = 0;
        for (int gap = 0; gap < gapCount(); gap++) {
            cost += mendingCost(gap);
        }
        return cost;
    }

    public int brokenAfterSplice(int gap) throws IndexOutOfBoundsException, IllegalStateException {
        requireGap(gap);
        requireUntied(gap);
        return gapsOfKind(BROKEN) + brokenChangeBySplice(gap);
    }

    public int bestSplice() {
        int best = -1;
        int bestChange = 0;
        for (int gap = 0; gap < gapCount(); gap++) {
            if (!gapTied(gap) && brokenChangeBySplice(gap) < bestChange) {
                bestChange = brokenChangeBySplice(gap);
                best = gap;
            }
        }
        return best;
    }

    public boolean wouldBreak(int speaker, int topic)
            throws IndexOutOfBoundsException, IllegalArgumentException {
        requireSpeaker(speaker);
        requireTopic(topic);
        if (wordCount == 0) {
            return false;
        }
        int last = wordCount - 1;
        int coughsBehind = remarkCount - 1 - read(wordPlaces, last);
        int strain = topicDistance(topicOfWord(last), topic) + coughsBehind;
        return kindOf(false, strain, speakerOfWord(last) == speaker) == BROKEN;
    }

    public double meanStrain() {
        int gaps = gapCount();
        if (gaps == 0) {
            return 0.0;
        }
        int sum = 0;
        for (int gap = 0; gap < gaps; gap++) {
            sum += strainOfGap(gap);
        }
        return (double) sum / (double) gaps;
    }

    public long digest() {
        long sum = FIRST_SUM;
        sum = mixed(sum, remarkCount);
        sum = mixed(sum, wordCount);
        sum = mixed(sum, patienceLeft);
        sum = mixed(sum, patienceSpent);
        sum = mixed(sum, gapsOfKind(BROKEN));
        sum = mixed(sum, gapsOfKind(POLITE));
        sum = mixed(sum, threadCount);
        sum = mixed(sum, longestThread());
        sum = mixed(sum, costOfAll());
        sum = mixed(sum, bestSplice());
        sum = mixedWithRemarks(sum);
        sum = mixedWithWords(sum);
        return mixedWithGaps(sum);
    }

    // ---- what the calls ask for first

    private static void requireSpeaker(int speaker) {
        if (speaker < 0 || speaker >= SPEAKERS) {
            throw new IndexOutOfBoundsException("speaker is not 0 to 5");
        }
    }

    private static void requireTopic(int topic) {
        if (topic < 0 || topic >= TOPICS) {
            throw new IllegalArgumentException("topic is not 0 to 9");
        }
    }

    private void requireRoom() {
        if (remarkCount >= ROOM) {
            throw new IllegalStateException("there are 24 remarks");
        }
    }

    private void requirePatience(int cost) {
        if (cost > patienceLeft) {
            throw new IllegalStateException("it costs too much");
        }
    }

    private void requirePlace(int place) {
        if (place < 0 || place >= remarkCount) {
            throw new IndexOutOfBoundsException("there is no such place");
        }
    }

    private void requireWord(int word) {
        if (word < 0 || word >= wordCount) {
            throw new IndexOutOfBoundsException("there is no such word");
        }
    }

    private void requireGap(int gap) {
        if (gap < 0 || gap >= gapCount()) {
            throw new IndexOutOfBoundsException("there is no such gap");
        }
    }

    private void requireUntied(int gap) {
        if (gapTied(gap)) {
            throw new IllegalStateException("the gap is tied");
        }
    }

    private void requireThread(int thread) {
        if (thread < 0 || thread >= threadCount) {
            throw new IndexOutOfBoundsException("there is no such thread");
        }
    }

    // ---- changes of the row

    private int append(int speaker, int topic) {
        int place = remarkCount;
        remarkCount++;
        put(place, speaker, topic);
        recount();
        return place;
    }

    private void put(int place, int speaker, int topic) {
        write(speakers, place, speaker);
        write(topics, place, topic);
        // What stood here before may have been a tied word.
        write(ties, place, 0);
    }

    private void moveUpBehind(int place) {
        remarkCount--;
        for (int to = place; to < remarkCount; to++) {
            copyRemark(to + 1, to);
        }
    }

    private void makeRoomAt(int place) {
        for (int from = remarkCount - 1; from >= place; from--) {
            copyRemark(from, from + 1);
        }
        remarkCount++;
    }

    private void copyRemark(int from, int to) {
        write(speakers, to, read(speakers, from));
        write(topics, to, read(topics, from));
        write(ties, to, read(ties, from));
    }

    private void pay(int cost) {
        patienceLeft -= cost;
        patienceSpent += cost;
    }

    private void recount() {
        wordCount = 0;
        for (int place = 0; place < remarkCount; place++) {
            if (!coughStandsAt(place)) {
                write(wordPlaces, wordCount, place);
                wordCount++;
            }
        }
        threadCount = 0;
        for (int word = 0; word < wordCount; word++) {
            if (word == 0 || kindOfGap(word - 1) == BROKEN) {
                threadCount++;
            }
            write(wordThreads, word, threadCount - 1);
        }
    }

    // ---- remarks, words and gaps that are known to be there

    private boolean coughStandsAt(int place) {
        return read(topics, place) == COUGH;
    }

    private int speakerOfWord(int word) {
        return read(speakers, read(wordPlaces, word));
    }

    private int topicOfWord(int word) {
        return read(topics, read(wordPlaces, word));
    }

    private int threadOfWord(int word) {
        return read(wordThreads, word);
    }

    private int wordsInThread(int thread) {
        int found = 0;
        for (int word = 0; word < wordCount; word++) {
            if (threadOfWord(word) == thread) {
                found++;
            }
        }
        return found;
    }

    private int gapCount() {
        return wordCount == 0 ? 0 : wordCount - 1;
    }

    private boolean gapTied(int gap) {
        return read(ties, read(wordPlaces, gap)) == 1;
    }

    private boolean ofOneSpeaker(int gap) {
        return speakerOfWord(gap) == speakerOfWord(gap + 1);
    }

    private int coughsOfGap(int gap) {
        return read(wordPlaces, gap + 1) - read(wordPlaces, gap) - 1;
    }

    private int strainOfGap(int gap) {
        return topicDistance(topicOfWord(gap), topicOfWord(gap + 1)) + coughsOfGap(gap);
    }

    private int kindOfGap(int gap) {
        return kindOf(gapTied(gap), strainOfGap(gap), ofOneSpeaker(gap));
    }

    private int gapsOfKind(int kind) {
        int found = 0;
        for (int gap = 0; gap < gapCount(); gap++) {
            if (kindOfGap(gap) == kind) {
                found++;
            }
        }
        return found;
    }

    private int mendingCost(int gap) {
        if (kindOfGap(gap) != BROKEN) {
            return 0;
        }
        int tooMuch = strainOfGap(gap) - mostUnbrokenStrain(ofOneSpeaker(gap));
        boolean coughsSuffice = tooMuch <= coughsOfGap(gap);
        return coughsSuffice ? Math.min(TIE_COST, tooMuch * REMOVE_COST) : TIE_COST;
    }

    private int brokenChangeBySplice(int gap) {
        int now = kindOfGap(gap) == BROKEN ? 1 : 0;
        int middle = topicBetween(topicOfWord(gap), topicOfWord(gap + 1));
        int strainAhead = topicDistance(topicOfWord(gap), middle);
        int strainBehind = topicDistance(middle, topicOfWord(gap + 1)) + coughsOfGap(gap);
        int ahead = kindOf(false, strainAhead, true) == BROKEN ? 1 : 0;
        // The new word is of the speaker ahead, so the gap behind it is of one speaker as before.
        int behind = kindOf(false, strainBehind, ofOneSpeaker(gap)) == BROKEN ? 1 : 0;
        return ahead + behind - now;
    }

    // ---- the rules of topics and gaps

    private static int topicDistance(int one, int other) {
        int straight = Math.abs(one - other);
        return Math.min(straight, TOPICS - straight);
    }

    private static int topicBetween(int from, int to) {
        int half = topicDistance(from, to) / 2;
        boolean upwards = Math.floorMod(to - from, TOPICS) <= TOPICS / 2;
        return Math.floorMod(upwards ? from + half : from - half, TOPICS);
    }

    private static int mostUnbrokenStrain(boolean sameSpeaker) {
        return sameSpeaker ? OWN_POLITE_STRAIN : POLITE_STRAIN;
    }

    private static int kindOf(boolean tied, int strain, boolean sameSpeaker) {
        if (tied || strain <= SMOOTH_STRAIN) {
            return SMOOTH;
        }
        return strain <= mostUnbrokenStrain(sameSpeaker) ? POLITE : BROKEN;
    }

    // ---- parts of the checksum

    private static long mixed(long sum, int number) {
        return sum * SUM_FACTOR + number;
    }

    private static long mixedFlag(long sum, boolean so) {
        return mixed(sum, so ? 1 : 0);
    }

    private long mixedWithRemarks(long before) {
        long sum = before;
        for (int place = 0; place < remarkCount; place++) {
            sum = mixedFlag(sum, coughStandsAt(place));
            sum = mixed(sum, read(speakers, place));
        }
        return sum;
    }

    private long mixedWithWords(long before) {
        long sum = before;
        for (int word = 0; word < wordCount; word++) {
            sum = mixed(sum, read(wordPlaces, word));
            sum = mixed(sum, topicOfWord(word));
            sum = mixed(sum, threadOfWord(word));
        }
        return sum;
    }

    private long mixedWithGaps(long before) {
        long sum = before;
        for (int gap = 0; gap < gapCount(); gap++) {
            sum = mixed(sum, coughsOfGap(gap));
            sum = mixed(sum, strainOfGap(gap));
            sum = mixedFlag(sum, gapTied(gap));
            sum = mixedFlag(sum, kindOfGap(gap) == BROKEN);
            sum = mixed(sum, mendingCost(gap));
        }
        return sum;
    }

    // ---- the only two that touch a row: an index outside it reads 0 and writes nothing

    private static int read(int[] row, int index) {
        return index >= 0 && index < row.length ? row[index] : 0;
    }

    private static void write(int[] row, int index, int value) {
        if (index >= 0 && index < row.length) {
            row[index] = value;
        }
    }
}
