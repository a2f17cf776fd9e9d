import java.util.ArrayList;
import java.util.List;
import java.util.TreeSet;

/** Long runs of calls beside a slow model that holds the talk in another way. */
public final class ModelTest {
    private static final Check CHECK = new Check("ModelTest");
    private static final int RUNS = 400;
    private static final int CALLS = 60;
    private static final int[] FAR = {Integer.MIN_VALUE, -2, 25, 1000, Integer.MAX_VALUE};

    private static long seed = 20261119L;

    private static int below(int bound) {
        seed = seed * 6364136223846793005L + 1442695040888963407L;
        return (int) ((seed >>> 33) % bound);
    }

    /** -1 to size, now and then something far outside. */
    private static int around(int size) {
        return below(40) == 0 ? FAR[below(FAR.length)] : below(size + 2) - 1;
    }

    /** A word with the coughs that stand behind it, up to the next word. */
    private static final class Word {
        final int speaker;
        final int topic;
        final List<Integer> coughs = new ArrayList<>();
        boolean tied;

        Word(int speaker, int topic) {
            this.speaker = speaker;
            this.topic = topic;
        }
    }

    private static final class Model {
        final List<Integer> coughsAhead = new ArrayList<>();
        final List<Word> words = new ArrayList<>();
        int patience = 30;
        int spent = 0;

        static RuntimeException index() {
            return new IndexOutOfBoundsException();
        }

        static RuntimeException state() {
            return new IllegalStateException();
        }

        static void speaker(int speaker) {
            if (!List.of(0, 1, 2, 3, 4, 5).contains(speaker)) throw index();
        }

        static void topic(int topic) {
            if (!List.of(0, 1, 2, 3, 4, 5, 6, 7, 8, 9).contains(topic)) throw new IllegalArgumentException();
        }

        void gap(int gap) {
            if (gap < 0 || gap > words.size() - 2) throw index();
        }

        int coughs() {
            int n = coughsAhead.size();
            for (Word w : words) n += w.coughs.size();
            return n;
        }

        int remarks() {
            return coughs() + words.size();
        }

        List<Integer> lastCoughs() {
            return words.isEmpty() ? coughsAhead : words.get(words.size() - 1).coughs;
        }

        int say(int speaker, int topic) {
            speaker(speaker);
            topic(topic);
            if (remarks() == 24) throw state();
            words.add(new Word(speaker, topic));
            return remarks() - 1;
        }

        int cough(int speaker) {
            speaker(speaker);
            if (remarks() == 24) throw state();
            lastCoughs().add(speaker);
            return remarks() - 1;
        }

        void pay(int cost) {
            if (cost > patience) throw state();
            patience -= cost;
            spent += cost;
        }

        /** For each place the word there, or null. */
        List<Word> wordsByPlace() {
            List<Word> row = new ArrayList<>();
            for (int ignored : coughsAhead) row.add(null);
            for (Word w : words) {
                row.add(w);
                for (int ignored : w.coughs) row.add(null);
            }
            return row;
        }

        List<Integer> speakersByPlace() {
            List<Integer> row = new ArrayList<>(coughsAhead);
            for (Word w : words) {
                row.add(w.speaker);
                row.addAll(w.coughs);
            }
            return row;
        }

        boolean isCough(int place) {
            if (place < 0 || place >= remarks()) throw index();
            return wordsByPlace().get(place) == null;
        }

        int speakerAt(int place) {
            if (place < 0 || place >= remarks()) throw index();
            return speakersByPlace().get(place);
        }

        int removeCough(int place) {
            if (!isCough(place)) throw state();
            pay(1);
            int left = place;
            List<Integer> coughs = coughsAhead;
            int next = 0;
            while (left >= coughs.size()) {
                left -= coughs.size() + 1;
                coughs = words.get(next++).coughs;
            }
            coughs.remove(left);
            return remarks();
        }

        int tie(int gap) {
            gap(gap);
            if (words.get(gap).tied) throw state();
            pay(3);
            words.get(gap).tied = true;
            return threads();
        }

        int splice(int gap) {
            gap(gap);
            if (words.get(gap).tied || remarks() == 24) throw state();
            pay(2);
            return put(gap);
        }

        int put(int gap) {
            Word first = words.get(gap);
            int up = 0;
            while ((first.topic + up) % 10 != words.get(gap + 1).topic) up++;
            int steps = up <= 5 ? up / 2 : -((10 - up) / 2);
            Word added = new Word(first.speaker, (first.topic + 10 + steps) % 10);
            added.coughs.addAll(first.coughs);
            first.coughs.clear();
            words.add(gap + 1, added);
            return added.topic;
        }

        int rest(int minutes) {
            if (minutes < 1 || minutes > 60) throw new IllegalArgumentException();
            for (int i = 0; i < minutes; i++) if (patience < 99) patience++;
            return patience;
        }

        Word word(int word) {
            if (word < 0 || word >= words.size()) throw index();
            return words.get(word);
        }

        int wordsOf(int speaker) {
            speaker(speaker);
            int n = 0;
            for (Word w : words) if (w.speaker == speaker) n++;
            return n;
        }

        int coughsIn(int gap) {
            gap(gap);
            return words.get(gap).coughs.size();
        }

        int apart(int a, int b) {
            int steps = 0;
            while ((a + steps) % 10 != b && (b + steps) % 10 != a) steps++;
            return steps;
        }

        int strainOf(int gap) {
            gap(gap);
            return apart(words.get(gap).topic, words.get(gap + 1).topic) + words.get(gap).coughs.size();
        }

        boolean isTied(int gap) {
            gap(gap);
            return words.get(gap).tied;
        }

        boolean isSmooth(int gap) {
            return isTied(gap) || strainOf(gap) < 2;
        }

        boolean isPolite(int gap) {
            if (isSmooth(gap)) return false;
            return strainOf(gap) == 2 || strainOf(gap) <= 4 && words.get(gap).speaker == words.get(gap + 1).speaker;
        }

        boolean isBroken(int gap) {
            return !isSmooth(gap) && !isPolite(gap);
        }

        int brokenGaps() {
            int n = 0;
            for (int g = 0; g + 1 < words.size(); g++) if (isBroken(g)) n++;
            return n;
        }

        int politeGaps() {
            int n = 0;
            for (int g = 0; g + 1 < words.size(); g++) if (isPolite(g)) n++;
            return n;
        }

        List<List<Word>> threadList() {
            List<List<Word>> threads = new ArrayList<>();
            for (int w = 0; w < words.size(); w++) {
                if (w == 0 || isBroken(w - 1)) threads.add(new ArrayList<>());
                threads.get(threads.size() - 1).add(words.get(w));
            }
            return threads;
        }

        int threads() {
            return threadList().size();
        }

        int threadOf(int word) {
            Word sought = word(word);
            int n = 0;
            while (!threadList().get(n).contains(sought)) n++;
            return n;
        }

        List<Word> thread(int thread) {
            if (thread < 0 || thread >= threads()) throw index();
            return threadList().get(thread);
        }

        int longestThread() {
            int best = -1;
            for (int t = threads() - 1; t >= 0; t--) {
                if (best < 0 || thread(t).size() >= thread(best).size()) best = t;
            }
            return best;
        }

        int threadsOf(int speaker) {
            speaker(speaker);
            int n = 0;
            for (List<Word> thread : threadList()) {
                for (Word w : thread) {
                    if (w.speaker == speaker) {
                        n++;
                        break;
                    }
                }
            }
            return n;
        }

        int topicsIn(int thread) {
            TreeSet<Integer> topics = new TreeSet<>();
            for (Word w : thread(thread)) topics.add(w.topic);
            return topics.size();
        }

        Model copy() {
            Model copy = new Model();
            copy.patience = patience;
            copy.spent = spent;
            copy.coughsAhead.addAll(coughsAhead);
            for (Word w : words) {
                Word other = new Word(w.speaker, w.topic);
                other.tied = w.tied;
                other.coughs.addAll(w.coughs);
                copy.words.add(other);
            }
            return copy;
        }

        /** Takes coughs out one by one until the gap is mended, if it ever is. */
        int costOfMending(int gap) {
            if (!isBroken(gap)) return 0;
            Model tried = copy();
            for (int cost = 1; cost < 3 && tried.coughsIn(gap) > 0; cost++) {
                tried.words.get(gap).coughs.remove(0);
                if (!tried.isBroken(gap)) return cost;
            }
            return 3;
        }

        int costOfAll() {
            int cost = 0;
            for (int g = 0; g + 1 < words.size(); g++) cost += costOfMending(g);
            return cost;
        }

        int brokenAfterSplice(int gap) {
            if (isTied(gap)) throw state();
            Model tried = copy();
            tried.put(gap);
            return tried.brokenGaps();
        }

        int bestSplice() {
            int fewest = brokenGaps();
            int best = -1;
            for (int g = 0; g + 1 < words.size(); g++) {
                if (!isTied(g) && brokenAfterSplice(g) < fewest) {
                    fewest = brokenAfterSplice(g);
                    best = g;
                }
            }
            return best;
        }

        boolean wouldBreak(int speaker, int topic) {
            speaker(speaker);
            topic(topic);
            if (words.isEmpty()) return false;
            Model tried = copy();
            tried.words.add(new Word(speaker, topic));
            return tried.isBroken(words.size() - 1);
        }

        double meanStrain() {
            int gaps = words.size() - 1;
            if (gaps < 1) return 0;
            int sum = 0;
            for (int g = 0; g < gaps; g++) sum += strainOf(g);
            return (double) sum / gaps;
        }

        long digest() {
            List<Integer> x = new ArrayList<>(List.of(remarks(), words.size(), patience, spent, brokenGaps(),
                    politeGaps(), threads(), longestThread(), costOfAll(), bestSplice()));
            for (int p = 0; p < remarks(); p++) x.addAll(List.of(isCough(p) ? 1 : 0, speakerAt(p)));
            for (int w = 0; w < words.size(); w++) {
                x.addAll(List.of(wordsByPlace().indexOf(words.get(w)), words.get(w).topic, threadOf(w)));
            }
            for (int g = 0; g + 1 < words.size(); g++) {
                x.addAll(List.of(coughsIn(g), strainOf(g), isTied(g) ? 1 : 0, isBroken(g) ? 1 : 0, costOfMending(g)));
            }
            long d = 1997;
            for (int number : x) d = d * 31 + number;
            return d;
        }
    }

    private static void same(String what, Check.Call got, Check.Call due) {
        CHECK.is(what, Check.answerOf(got), Check.answerOf(due));
    }

    private static void change(SplicedTalk x, Model m, int run) {
        int speaker = below(30) == 0 ? around(6) : below(run % 3 == 0 ? 2 : 6);
        int topic = below(30) == 0 ? around(10) : below(10);
        int place = around(m.remarks());
        int gap = around(Math.max(0, m.words.size() - 1));
        switch (below(10)) {
            case 0, 1, 2 -> same("say", () -> x.say(speaker, topic), () -> m.say(speaker, topic));
            case 3, 4 -> same("cough", () -> x.cough(speaker), () -> m.cough(speaker));
            case 5, 6 -> same("removeCough", () -> x.removeCough(place), () -> m.removeCough(place));
            case 7 -> same("tie", () -> x.tie(gap), () -> m.tie(gap));
            case 8 -> same("splice", () -> x.splice(gap), () -> m.splice(gap));
            default -> {
                int minutes = below(4) == 0 ? around(61) : 1 + below(run % 2 == 0 ? 2 : 20);
                same("rest", () -> x.rest(minutes), () -> m.rest(minutes));
            }
        }
    }

    private static void askWhole(SplicedTalk x, Model m) {
        same("remarks", x::remarks, m::remarks);
        same("words", x::words, m.words::size);
        same("coughs", x::coughs, m::coughs);
        same("patience", x::patience, () -> m.patience);
        same("spent", x::spent, () -> m.spent);
        same("brokenGaps", x::brokenGaps, m::brokenGaps);
        same("politeGaps", x::politeGaps, m::politeGaps);
        same("threads", x::threads, m::threads);
        same("longestThread", x::longestThread, m::longestThread);
        same("costOfAll", x::costOfAll, m::costOfAll);
        same("bestSplice", x::bestSplice, m::bestSplice);
        same("meanStrain", x::meanStrain, m::meanStrain);
        same("digest", x::digest, m::digest);
    }

    private static void askParts(SplicedTalk x, Model m, int n) {
        same("isCough", () -> x.isCough(n), () -> m.isCough(n));
        same("speakerAt", () -> x.speakerAt(n), () -> m.speakerAt(n));
        same("placeOf", () -> x.placeOf(n), () -> m.wordsByPlace().indexOf(m.word(n)));
        same("topicOf", () -> x.topicOf(n), () -> m.word(n).topic);
        same("wordsOf", () -> x.wordsOf(n), () -> m.wordsOf(n));
        same("coughsIn", () -> x.coughsIn(n), () -> m.coughsIn(n));
        same("strainOf", () -> x.strainOf(n), () -> m.strainOf(n));
        same("isTied", () -> x.isTied(n), () -> m.isTied(n));
        same("isSmooth", () -> x.isSmooth(n), () -> m.isSmooth(n));
        same("isPolite", () -> x.isPolite(n), () -> m.isPolite(n));
        same("isBroken", () -> x.isBroken(n), () -> m.isBroken(n));
        same("threadOf", () -> x.threadOf(n), () -> m.threadOf(n));
        same("lengthOf", () -> x.lengthOf(n), () -> m.thread(n).size());
        same("threadsOf", () -> x.threadsOf(n), () -> m.threadsOf(n));
        same("topicsIn", () -> x.topicsIn(n), () -> m.topicsIn(n));
        same("costOfMending", () -> x.costOfMending(n), () -> m.costOfMending(n));
        same("brokenAfterSplice", () -> x.brokenAfterSplice(n), () -> m.brokenAfterSplice(n));
        int topic = around(10);
        same("wouldBreak", () -> x.wouldBreak(n, topic), () -> m.wouldBreak(n, topic));
    }

    public static void main(String[] args) {
        for (int run = 0; run < RUNS; run++) {
            SplicedTalk x = new SplicedTalk();
            Model m = new Model();
            for (int call = 0; call < CALLS; call++) {
                change(x, m, run);
                same("digest", x::digest, m::digest);
            }
            askWhole(x, m);
            // every other number, so that no object is asked more than 512 times
            for (int n = -2 + run % 2; n < 26; n += 2) {
                askParts(x, m, n);
            }
            askWhole(x, m);
        }
        CHECK.exit();
    }
}
