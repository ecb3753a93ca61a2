import java.util.ArrayList;
import java.util.HashMap;
import java.util.HashSet;
import java.util.List;
import java.util.Map;
import java.util.Set;
import java.util.TreeMap;
import java.util.TreeSet;

/**
 * The document once more, as plainly and slowly as it goes, to compare Slugwire with: words go one by one,
 * and what would be is found by doing it to a copy.
 */
final class Model {

    private static final class Source {
        int weight;
        int root;
    }

    private static final class Take {
        int story;
        int kind;
        int words;
        int hold;
        int target = -1;
        int filedAt;
        boolean isGuarded;
        boolean isKilled;
        final TreeMap<Integer, Integer> values = new TreeMap<>();
    }

    private static final class Line {
        int speed;
        int lag;
        int down;
        int wordsSent;
        final TreeMap<Integer, Integer> left = new TreeMap<>();
        final TreeMap<Integer, Integer> sent = new TreeMap<>();

        boolean has(int take, int now) {
            return sent.containsKey(take) && now >= sent.get(take) + lag;
        }
    }

    private final List<Source> sources = new ArrayList<>();
    private int stories;
    private final Map<Integer, TreeMap<Integer, Integer>> said = new HashMap<>();
    private final Map<Integer, Integer> rivals = new HashMap<>();
    private final Map<Integer, Integer> firsts = new HashMap<>();
    private final List<Take> takes = new ArrayList<>();
    private final List<Line> lines = new ArrayList<>();
    private int now;

    private Model copy() {
        Model m = new Model();
        m.sources.addAll(sources);
        m.stories = stories;
        said.forEach((fact, bySource) -> m.said.put(fact, new TreeMap<>(bySource)));
        m.rivals.putAll(rivals);
        m.firsts.putAll(firsts);
        m.takes.addAll(takes);
        for (Line line : lines) {
            Line l = new Line();
            l.speed = line.speed;
            l.lag = line.lag;
            l.down = line.down;
            l.wordsSent = line.wordsSent;
            l.left.putAll(line.left);
            l.sent.putAll(line.sent);
            m.lines.add(l);
        }
        m.now = now;
        return m;
    }

    private static void index(boolean isFine) {
        if (!isFine) {
            throw new IndexOutOfBoundsException();
        }
    }

    private static void argument(boolean isFine) {
        if (!isFine) {
            throw new IllegalArgumentException();
        }
    }

    private static void state(boolean isFine) {
        if (!isFine) {
            throw new IllegalStateException();
        }
    }

    private static boolean in(int from, int n, int to) {
        return from <= n && n <= to;
    }

    private void indexFact(int story, int fact) {
        index(in(0, story, stories - 1));
        index(in(0, fact, 3));
    }

    // ---- facts

    private Map<Integer, Integer> said(int story, int fact) {
        return said.computeIfAbsent(story * 4 + fact, k -> new TreeMap<>());
    }

    private List<Source> sayers(int story, int fact, int value) {
        List<Source> sayers = new ArrayList<>();
        said(story, fact).forEach((source, v) -> {
            if (v == value) {
                sayers.add(sources.get(source));
            }
        });
        return sayers;
    }

    private int proof(int story, int fact, int value) {
        List<Source> sayers = sayers(story, fact, value);
        Set<Integer> roots = new HashSet<>();
        boolean areTwoNamed = false;
        for (Source one : sayers) {
            if (one.weight == 3) {
                return 3;
            }
            for (Source other : sayers) {
                areTwoNamed |= one.weight == 2 && other.weight == 2 && one.root != other.root;
            }
            roots.add(one.root);
        }
        return areTwoNamed ? 2 : roots.size() >= 3 ? 1 : 0;
    }

    private int force(int story, int fact, int value) {
        Map<Integer, Integer> greatest = new HashMap<>();
        for (Source s : sayers(story, fact, value)) {
            greatest.merge(s.root, s.weight, Math::max);
        }
        int sum = 0;
        for (int weight : greatest.values()) {
            sum += weight;
        }
        return sum;
    }

    private int best(int story, int fact, int leastProof) {
        int best = -1;
        int bestForce = 0;
        for (int value : new TreeSet<>(said(story, fact).values())) {
            int force = force(story, fact, value);
            if (force > bestForce && proof(story, fact, value) >= leastProof) {
                best = value;
                bestForce = force;
            }
        }
        return best;
    }

    private int truth(int story, int fact) {
        return best(story, fact, 1);
    }

    private int heard(int story, int fact) {
        int truth = truth(story, fact);
        return truth != -1 ? truth : best(story, fact, 0);
    }

    private int first(int story, int fact) {
        return firsts.getOrDefault(story * 4 + fact, -1);
    }

    private boolean areWeFirst(int story, int fact) {
        int ours = first(story, fact);
        Integer theirs = rivals.get(story * 4 + fact);
        return ours != -1 && (theirs == null || ours < theirs);
    }

    // ---- what is told

    int source(int weight, int of) {
        index(in(-1, of, sources.size() - 1));
        argument(in(1, weight, 3));
        state(sources.size() < 10);
        return tell(weight, of);
    }

    private int tell(int weight, int of) {
        Source s = new Source();
        s.weight = weight;
        s.root = of == -1 ? sources.size() : sources.get(of).root;
        sources.add(s);
        return sources.size() - 1;
    }

    int story() {
        state(stories < 6);
        return stories++;
    }

    int line(int speed, int lag) {
        argument(in(1, speed, 60) && in(0, lag, 9));
        state(lines.size() < 4);
        Line l = new Line();
        l.speed = speed;
        l.lag = lag;
        lines.add(l);
        return lines.size() - 1;
    }

    int report(int source, int story, int fact, int value) {
        index(in(0, source, sources.size() - 1));
        indexFact(story, fact);
        argument(in(0, value, 99));
        said(story, fact).put(source, value);
        return proof(story, fact, value);
    }

    int retract(int source, int story, int fact) {
        index(in(0, source, sources.size() - 1));
        indexFact(story, fact);
        Integer value = said(story, fact).remove(source);
        state(value != null);
        return value;
    }

    boolean rival(int story, int fact) {
        indexFact(story, fact);
        return rivals.putIfAbsent(story * 4 + fact, now) == null;
    }

    int down(int line, int minutes) {
        index(in(0, line, lines.size() - 1));
        argument(in(0, minutes, 99));
        int was = lines.get(line).down;
        lines.get(line).down = minutes;
        return was;
    }

    // ---- what is done

    private int add(Take t) {
        t.filedAt = now;
        takes.add(t);
        return takes.size() - 1;
    }

    int file(int story, int kind, int facts, boolean isGuarded, int hold) {
        index(in(0, story, stories - 1));
        argument(kind == 0 || kind == 3 || kind == 4);
        argument(in(1, facts, 15) && in(0, hold, 9999));
        state(takes.size() < 60);
        Take t = new Take();
        t.story = story;
        t.kind = kind;
        t.isGuarded = isGuarded;
        t.hold = hold;
        for (int f = 0; f < 4; f++) {
            if ((facts & (1 << f)) != 0) {
                t.values.put(f, isGuarded ? heard(story, f) : truth(story, f));
            }
        }
        if (t.values.containsValue(-1)) {
            return -2;
        }
        if (kind == 0 && t.values.size() != 1) {
            return -3;
        }
        t.words = kind == 0 ? 8 : kind == 3 ? 20 + 15 * t.values.size() : 60 + 30 * t.values.size();
        int number = add(t);
        for (Line l : lines) {
            l.left.put(number, t.words);
        }
        return number;
    }

    int correct(int take, int fact) {
        index(in(0, take, takes.size() - 1));
        Take old = takes.get(take);
        argument(old.values.containsKey(fact));
        state(!old.isKilled && takes.size() < 60);
        int truth = truth(old.story, fact);
        if (truth == -1 || truth == old.values.get(fact)) {
            return -2;
        }
        Take t = new Take();
        t.story = old.story;
        t.kind = 2;
        t.words = 15;
        t.target = take;
        t.values.put(fact, truth);
        int number = add(t);
        for (Line l : lines) {
            l.left.put(number, 15);
        }
        return number;
    }

    int kill(int take) {
        index(in(0, take, takes.size() - 1));
        Take old = takes.get(take);
        state(old.kind != 1 && !old.isKilled && takes.size() < 60);
        old.isKilled = true;
        Take t = new Take();
        t.story = old.story;
        t.kind = 1;
        t.words = 5;
        t.target = take;
        int number = add(t);
        int running = 0;
        for (Line l : lines) {
            if (l.sent.containsKey(take)) {
                l.left.put(number, 5);
                running++;
            }
            l.left.remove(take);
        }
        return running;
    }

    int pass(int minutes) {
        argument(in(1, minutes, 99));
        state(now + minutes <= 9999);
        int sent = 0;
        for (int m = 0; m < minutes; m++) {
            sent += minute();
        }
        return sent;
    }

    private int minute() {
        now++;
        int sent = 0;
        for (Line l : lines) {
            if (l.down > 0) {
                l.down--;
                continue;
            }
            for (int word = 0; word < l.speed; word++) {
                int take = mostUrgent(l);
                if (take == -1) {
                    break;
                }
                l.wordsSent++;
                if (l.left.merge(take, -1, Integer::sum) == 0) {
                    l.left.remove(take);
                    l.sent.put(take, now);
                    sent++;
                }
            }
        }
        for (Line l : lines) {
            for (int take : l.sent.keySet()) {
                if (l.has(take, now)) {
                    int story = takes.get(take).story;
                    takes.get(take).values.keySet().forEach(f -> firsts.putIfAbsent(story * 4 + f, now));
                }
            }
        }
        return sent;
    }

    private int mostUrgent(Line l) {
        for (int kind = 0; kind <= 4; kind++) {
            for (int take : l.left.keySet()) {
                if (takes.get(take).kind == kind && takes.get(take).hold <= now) {
                    return take;
                }
            }
        }
        return -1;
    }

    // ---- what is asked

    boolean areIndependent(int one, int other) {
        index(in(0, one, sources.size() - 1));
        index(in(0, other, sources.size() - 1));
        return sources.get(one).root != sources.get(other).root;
    }

    int ofFact(int story, int fact, int what) {
        indexFact(story, fact);
        argument(in(0, what, 6));
        int[] answers = {truth(story, fact), heard(story, fact), said(story, fact).size(),
            new HashSet<>(said(story, fact).values()).size(), rivals.getOrDefault(story * 4 + fact, -1),
            first(story, fact), areWeFirst(story, fact) ? 1 : 0};
        return answers[what];
    }

    int proof(int story, int fact, int value, boolean isForce) {
        indexFact(story, fact);
        argument(in(0, value, 99));
        return isForce ? force(story, fact, value) : proof(story, fact, value);
    }

    int ofTake(int take, int what) {
        index(in(0, take, takes.size() - 1));
        argument(in(0, what, 8));
        Take t = takes.get(take);
        int set = 0;
        for (int f : t.values.keySet()) {
            set += 1 << f;
        }
        int[] answers = {t.story, t.kind, set, t.words, t.hold, t.isGuarded ? 1 : 0, t.isKilled ? 1 : 0, t.target,
            t.filedAt};
        return answers[what];
    }

    int says(int take, int fact) {
        index(in(0, take, takes.size() - 1));
        index(in(0, fact, 3));
        return takes.get(take).values.getOrDefault(fact, -1);
    }

    private boolean isDropped(Line l, int take) {
        for (int k = 0; k < takes.size(); k++) {
            if (takes.get(k).kind == 1 && takes.get(k).target == take && l.has(k, now)) {
                return true;
            }
        }
        return false;
    }

    int state(int line, int take) {
        index(in(0, line, lines.size() - 1));
        index(in(0, take, takes.size() - 1));
        Line l = lines.get(line);
        if (l.left.containsKey(take)) {
            return l.left.get(take) == takes.get(take).words ? 1 : 2;
        }
        if (!l.sent.containsKey(take)) {
            return 0;
        }
        return isDropped(l, take) ? 5 : l.has(take, now) ? 4 : 3;
    }

    int tells(int line, int story, int fact) {
        index(in(0, line, lines.size() - 1));
        indexFact(story, fact);
        int told = -1;
        for (int take : lines.get(line).sent.keySet()) {
            boolean isOfStory = takes.get(take).story == story;
            if (isOfStory && lines.get(line).has(take, now) && !isDropped(lines.get(line), take)) {
                told = takes.get(take).values.getOrDefault(fact, told);
            }
        }
        return told;
    }

    int ofLine(int line, int what) {
        index(in(0, line, lines.size() - 1));
        argument(in(0, what, 7));
        Line l = lines.get(line);
        int wordsLeft = 0;
        for (int words : l.left.values()) {
            wordsLeft += words;
        }
        int told = 0;
        int wrong = 0;
        for (int i = 0; i < 4 * stories; i++) {
            int value = tells(line, i / 4, i % 4);
            int truth = truth(i / 4, i % 4);
            told += value != -1 ? 1 : 0;
            wrong += value != -1 && truth != -1 && value != truth ? 1 : 0;
        }
        int[] answers = {l.speed, l.lag, l.down, l.left.size(), wordsLeft, l.wordsSent, told, wrong};
        return answers[what];
    }

    int many(int what) {
        argument(in(0, what, 10));
        int killed = 0;
        int corrections = 0;
        for (Take t : takes) {
            killed += t.isKilled ? 1 : 0;
            corrections += t.kind == 2 ? 1 : 0;
        }
        int truths = 0;
        int unproven = 0;
        int first = 0;
        for (int i = 0; i < 4 * stories; i++) {
            boolean isTrue = truth(i / 4, i % 4) != -1;
            truths += isTrue ? 1 : 0;
            unproven += !isTrue && !said(i / 4, i % 4).isEmpty() ? 1 : 0;
            first += areWeFirst(i / 4, i % 4) ? 1 : 0;
        }
        int wrong = 0;
        for (int l = 0; l < lines.size(); l++) {
            wrong += ofLine(l, 7);
        }
        int[] answers = {now, sources.size(), stories, lines.size(), takes.size(), killed, corrections, truths,
            unproven, first, wrong};
        return answers[what];
    }

    double meanDelay() {
        double sum = 0;
        int times = 0;
        for (Line l : lines) {
            for (Map.Entry<Integer, Integer> sent : l.sent.entrySet()) {
                Take t = takes.get(sent.getKey());
                sum += sent.getValue() - (t.hold > t.filedAt ? t.hold : t.filedAt);
                times++;
            }
        }
        return times == 0 ? 0 : sum / times;
    }

    // ---- what would be

    private int minutesUntilHad(int line, int take) {
        for (int minutes = 0; minutes <= 99; minutes++) {
            if (lines.get(line).has(take, now)) {
                return minutes;
            }
            minute();
        }
        return -1;
    }

    int arrives(int line, int take) {
        index(in(0, line, lines.size() - 1));
        index(in(0, take, takes.size() - 1));
        return copy().minutesUntilHad(line, take);
    }

    int wouldArrive(int line, int kind, int words) {
        index(in(0, line, lines.size() - 1));
        argument(in(0, kind, 4) && in(1, words, 200));
        Model m = copy();
        Take t = new Take();
        t.kind = kind;
        t.words = words;
        int number = m.add(t);
        m.lines.get(line).left.put(number, words);
        return m.minutesUntilHad(line, number);
    }

    int needs(int story, int fact, int value, int weight) {
        indexFact(story, fact);
        argument(in(0, value, 99) && in(1, weight, 3));
        Model m = copy();
        for (int added = 0; added <= 10; added++) {
            if (m.truth(story, fact) == value) {
                return added;
            }
            m.said(story, fact).put(m.tell(weight, -1), value);
        }
        return -1;
    }

    int lead(int story, int words) {
        index(in(0, story, stories - 1));
        argument(in(0, words, 99));
        int best = 0;
        int bestForce = 0;
        for (int set = 15; set > 0; set--) {
            int force = 0;
            int room = words - 20;
            boolean areTrue = true;
            for (int f = 0; f < 4; f++) {
                if ((set >> f) % 2 == 1) {
                    int truth = truth(story, f);
                    areTrue &= truth != -1;
                    force += truth == -1 ? 0 : force(story, f, truth);
                    room -= 15;
                }
            }
            if (areTrue && room >= 0 && force >= bestForce) {
                best = set;
                bestForce = force;
            }
        }
        return best;
    }

    long digest() {
        List<Long> v = new ArrayList<>();
        for (int w = 0; w <= 10; w++) {
            v.add((long) many(w));
        }
        for (int i = 0; i < 4 * stories; i++) {
            for (int w = 0; w <= 6; w++) {
                v.add((long) ofFact(i / 4, i % 4, w));
            }
            v.add((long) needs(i / 4, i % 4, 50, 2));
        }
        for (int s = 0; s < stories; s++) {
            v.add((long) lead(s, 55));
        }
        for (int t = 0; t < takes.size(); t++) {
            for (int w = 0; w <= 8; w++) {
                v.add((long) ofTake(t, w));
            }
            for (int f = 0; f < 4; f++) {
                v.add((long) says(t, f));
            }
        }
        for (int l = 0; l < lines.size(); l++) {
            for (int w = 0; w <= 7; w++) {
                v.add((long) ofLine(l, w));
            }
            v.add((long) wouldArrive(l, 3, 50));
            for (int t = 0; t < takes.size(); t++) {
                v.add((long) state(l, t));
            }
        }
        for (int l = 0; l < lines.size(); l++) {
            for (int i = 0; i < 4 * stories; i++) {
                v.add((long) tells(l, i / 4, i % 4));
            }
        }
        long d = 58223;
        for (long n : v) {
            d = d * 31 + n;
        }
        return d;
    }
}
