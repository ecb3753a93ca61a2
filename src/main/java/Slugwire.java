import java.util.Arrays;

/** News by the line: what sources say, the takes that are filed of it, and the lines that bring them to desks. */
public final class Slugwire {

    private static final int NONE = -1;
    private static final int NOTHING_TO_FILE = -2;
    private static final int NOT_ONE_FACT = -3;

    private static final int MAX_SOURCES = 10;
    private static final int MAX_STORIES = 6;
    private static final int MAX_TAKES = 60;
    private static final int MAX_LINES = 4;

    private static final int FACTS = 4;
    private static final int ALL_FACTS = 15;
    private static final int GREATEST_VALUE = 99;
    private static final int LAST_MINUTE = 9999;
    private static final int FORESIGHT = 99;
    private static final int MOST_NEW_SOURCES = 10;

    private static final int UNNAMED = 1;
    private static final int NAMED = 2;
    private static final int OFFICIAL = 3;

    private static final int FLASH = 0;
    private static final int KILL = 1;
    private static final int CORRECTION = 2;
    private static final int LEAD = 3;
    private static final int FEATURE = 4;

    private final Sources sources;
    private final Tally tally;
    /** Four of each story, one story behind the other. */
    private final Fact[] factRows;
    private final Take[] takes;
    private final Line[] lines;
    /** A line to try out on what would be, so that no real one is changed. */
    private final Line trial;
    private int storyCount;
    private int takeCount;
    private int lineCount;
    private int now;

    /** Makes all rows at once: no call makes an object later. */
    public Slugwire() {
        sources = new Sources();
        tally = new Tally();
        factRows = new Fact[MAX_STORIES * FACTS];
        for (int i = 0; i < factRows.length; i++) {
            factRows[i] = new Fact();
        }
        takes = new Take[MAX_TAKES];
        for (int i = 0; i < takes.length; i++) {
            takes[i] = new Take();
        }
        lines = new Line[MAX_LINES];
        for (int i = 0; i < lines.length; i++) {
            lines[i] = new Line();
        }
        trial = new Line();
    }

    // ---- what is told

    public int source(int weight, int of)
            throws IndexOutOfBoundsException, IllegalArgumentException, IllegalStateException {
        if (of != NONE) {
            checkSource(of);
        }
        checkWeight(weight);
        if (sources.count >= MAX_SOURCES) {
            throw new IllegalStateException("no room for a source");
        }
        return sources.add(weight, of);
    }

    public int story() throws IllegalStateException {
        if (storyCount >= MAX_STORIES) {
            throw new IllegalStateException("no room for a story");
        }
        storyCount++;
        return storyCount - 1;
    }

    public int line(int speed, int lag) throws IllegalArgumentException, IllegalStateException {
        if (speed < 1 || speed > 60 || lag < 0 || lag > 9) {
            throw new IllegalArgumentException("no such speed or lag");
        }
        if (lineCount >= MAX_LINES) {
            throw new IllegalStateException("no room for a line");
        }
        lines[lineCount].speed = speed;
        lines[lineCount].lag = lag;
        lineCount++;
        return lineCount - 1;
    }

    public int report(int source, int story, int fact, int value)
            throws IndexOutOfBoundsException, IllegalArgumentException {
        checkSource(source);
        checkFact(story, fact);
        checkValue(value);
        Fact asked = factAt(story, fact);
        asked.said[source] = value;
        asked.settle(sources, tally);
        tally.weigh(sources, asked.said, value);
        return tally.proofGrade();
    }

    public int retract(int source, int story, int fact) throws IndexOutOfBoundsException, IllegalStateException {
        checkSource(source);
        checkFact(story, fact);
        Fact asked = factAt(story, fact);
        int value = asked.said[source];
        if (value == NONE) {
            throw new IllegalStateException("the source says nothing of that");
        }
        asked.said[source] = NONE;
        asked.settle(sources, tally);
        return value;
    }

    public boolean rival(int story, int fact) throws IndexOutOfBoundsException {
        checkFact(story, fact);
        Fact asked = factAt(story, fact);
        if (asked.rivalAt != NONE) {
            return false;
        }
        asked.rivalAt = now;
        return true;
    }

    public int down(int line, int minutes) throws IndexOutOfBoundsException, IllegalArgumentException {
        checkLine(line);
        if (minutes < 0 || minutes > 99) {
            throw new IllegalArgumentException("minutes must be 0 to 99");
        }
        int before = lines[line].downFor;
        lines[line].downFor = minutes;
        return before;
    }

    // ---- what is done

    public int file(int story, int kind, int facts, boolean isGuarded, int hold)
            throws IndexOutOfBoundsException, IllegalArgumentException, IllegalStateException {
        checkStory(story);
        boolean isFiledKind = kind == FLASH || kind == LEAD || kind == FEATURE;
        if (!isFiledKind || facts < 1 || facts > ALL_FACTS || hold < 0 || hold > LAST_MINUTE) {
            throw new IllegalArgumentException("no such kind, facts or hold");
        }
        checkRoomForTake();
        if (!hasValues(story, facts, isGuarded)) {
            return NOTHING_TO_FILE;
        }
        if (kind == FLASH && Integer.bitCount(facts) != 1) {
            return NOT_ONE_FACT;
        }
        int number = addTake(story, kind, facts, isGuarded, hold, NONE);
        runOnAllLines(number);
        return number;
    }

    public int correct(int take, int fact)
            throws IndexOutOfBoundsException, IllegalArgumentException, IllegalStateException {
        checkTake(take);
        if (fact < 0 || fact >= FACTS || takes[take].values[fact] == NONE) {
            throw new IllegalArgumentException("the take has not that fact");
        }
        if (takes[take].killedBy != NONE) {
            throw new IllegalStateException("the take is killed");
        }
        checkRoomForTake();
        int story = takes[take].story;
        int truth = factAt(story, fact).truth;
        if (truth == NONE || truth == takes[take].values[fact]) {
            return NOTHING_TO_FILE;
        }
        int number = addTake(story, CORRECTION, 1 << fact, false, 0, take);
        runOnAllLines(number);
        return number;
    }

    public int kill(int take) throws IndexOutOfBoundsException, IllegalStateException {
        checkTake(take);
        if (takes[take].kind == KILL || takes[take].killedBy != NONE) {
            throw new IllegalStateException("the take is a kill, or killed");
        }
        checkRoomForTake();
        int number = addTake(takes[take].story, KILL, 0, false, 0, take);
        takes[take].killedBy = number;
        int running = 0;
        for (int l = 0; l < lineCount; l++) {
            if (lines[l].isSent(take)) {
                lines[l].start(number, takes[number]);
                running++;
            } else {
                lines[l].stop(take);
            }
        }
        return running;
    }

    public int pass(int minutes) throws IllegalArgumentException, IllegalStateException {
        if (minutes < 1 || minutes > 99) {
            throw new IllegalArgumentException("minutes must be 1 to 99");
        }
        if (now + minutes > LAST_MINUTE) {
            throw new IllegalStateException("time would run out");
        }
        int sent = 0;
        for (int m = 0; m < minutes; m++) {
            now++;
            for (int l = 0; l < lineCount; l++) {
                sent += lines[l].runMinute(now);
            }
        }
        return sent;
    }

    // ---- what is asked

    public boolean areIndependent(int one, int other) throws IndexOutOfBoundsException {
        checkSource(one);
        checkSource(other);
        return sources.root[one] != sources.root[other];
    }

    public int ofFact(int story, int fact, int what) throws IndexOutOfBoundsException, IllegalArgumentException {
        checkFact(story, fact);
        Fact asked = factAt(story, fact);
        switch (what) {
            case 0: return asked.truth;
            case 1: return asked.heard;
            case 2: return asked.countSayers();
            case 3: return asked.countValues();
            case 4: return asked.rivalAt;
            case 5: return firstHad(story, fact);
            case 6: return isFirst(story, fact) ? 1 : 0;
            default: throw new IllegalArgumentException("what must be 0 to 6");
        }
    }

    public int proof(int story, int fact, int value, boolean isForce)
            throws IndexOutOfBoundsException, IllegalArgumentException {
        checkFact(story, fact);
        checkValue(value);
        tally.weigh(sources, factAt(story, fact).said, value);
        return isForce ? tally.force : tally.proofGrade();
    }

    public int ofTake(int take, int what) throws IndexOutOfBoundsException, IllegalArgumentException {
        checkTake(take);
        Take asked = takes[take];
        switch (what) {
            case 0: return asked.story;
            case 1: return asked.kind;
            case 2: return asked.factSet;
            case 3: return asked.words;
            case 4: return asked.hold;
            case 5: return asked.isGuarded ? 1 : 0;
            case 6: return asked.killedBy != NONE ? 1 : 0;
            case 7: return asked.target;
            case 8: return asked.filedAt;
            default: throw new IllegalArgumentException("what must be 0 to 8");
        }
    }

    public int says(int take, int fact) throws IndexOutOfBoundsException {
        checkTake(take);
        if (fact < 0 || fact >= FACTS) {
            throw new IndexOutOfBoundsException("no such fact");
        }
        return takes[take].values[fact];
    }

    public int state(int line, int take) throws IndexOutOfBoundsException {
        checkLine(line);
        checkTake(take);
        Line asked = lines[line];
        if (!asked.isRunning(take)) {
            return 0;
        }
        if (!asked.isSent(take)) {
            return asked.left[take] == takes[take].words ? 1 : 2;
        }
        if (!asked.hasAtDesk(take, now)) {
            return 3;
        }
        return isDropped(line, take) ? 5 : 4;
    }

    public int tells(int line, int story, int fact) throws IndexOutOfBoundsException {
        checkLine(line);
        checkFact(story, fact);
        return toldAtDesk(line, story, fact);
    }

    public int ofLine(int line, int what) throws IndexOutOfBoundsException, IllegalArgumentException {
        checkLine(line);
        Line asked = lines[line];
        switch (what) {
            case 0: return asked.speed;
            case 1: return asked.lag;
            case 2: return asked.downFor;
            case 3: return asked.countWaiting();
            case 4: return asked.countWordsLeft();
            case 5: return asked.wordsSent;
            case 6: return countTold(line);
            case 7: return countWrong(line);
            default: throw new IllegalArgumentException("what must be 0 to 7");
        }
    }

    public int many(int what) throws IllegalArgumentException {
        switch (what) {
            case 0: return now;
            case 1: return sources.count;
            case 2: return storyCount;
            case 3: return lineCount;
            case 4: return takeCount;
            case 5: return countKilled();
            case 6: return countCorrections();
            case 7: return countTruths();
            case 8: return countUnproven();
            case 9: return countFirsts();
            case 10: return countWrongAnywhere();
            default: throw new IllegalArgumentException("what must be 0 to 10");
        }
    }

    public double meanDelay() {
        int minutes = 0;
        int times = 0;
        for (int l = 0; l < lineCount; l++) {
            for (int t = 0; t < takeCount; t++) {
                if (lines[l].isSent(t)) {
                    minutes += lines[l].sentAt[t] - Math.max(takes[t].filedAt, takes[t].hold);
                    times++;
                }
            }
        }
        return times == 0 ? 0.0 : (double) minutes / (double) times;
    }

    // ---- what would be

    public int arrives(int line, int take) throws IndexOutOfBoundsException {
        checkLine(line);
        checkTake(take);
        Line asked = lines[line];
        if (!asked.isRunning(take)) {
            return NONE;
        }
        if (asked.isSent(take)) {
            return Math.max(0, asked.sentAt[take] + asked.lag - now);
        }
        trial.copyFrom(asked);
        return trial.runUntilHad(take, now);
    }

    public int wouldArrive(int line, int kind, int words)
            throws IndexOutOfBoundsException, IllegalArgumentException {
        checkLine(line);
        if (kind < FLASH || kind > FEATURE || words < 1 || words > 200) {
            throw new IllegalArgumentException("no such kind or words");
        }
        trial.copyFrom(lines[line]);
        trial.enqueue(takeCount, kind, words, 0);
        return trial.runUntilHad(takeCount, now);
    }

    public int needs(int story, int fact, int value, int weight)
            throws IndexOutOfBoundsException, IllegalArgumentException {
        checkFact(story, fact);
        checkValue(value);
        checkWeight(weight);
        Fact asked = factAt(story, fact);
        int other = asked.strongest(sources, tally, true, value);
        int otherForce = 0;
        if (other != NONE) {
            tally.weigh(sources, asked.said, other);
            otherForce = tally.force;
        }
        tally.weigh(sources, asked.said, value);
        for (int added = 0; added <= MOST_NEW_SOURCES; added++) {
            boolean isStronger = tally.force > otherForce || (tally.force == otherForce && value < other);
            if (isStronger && tally.proofGrade() > 0) {
                return added;
            }
            tally.addRoot(weight);
        }
        return NONE;
    }

    public int lead(int story, int words) throws IndexOutOfBoundsException, IllegalArgumentException {
        checkStory(story);
        if (words < 0 || words > 99) {
            throw new IllegalArgumentException("words must be 0 to 99");
        }
        int best = 0;
        int bestForce = 0;
        for (int set = 1; set <= ALL_FACTS; set++) {
            if (hasValues(story, set, false) && wordsFor(LEAD, set) <= words) {
                int force = forceOf(story, set);
                if (force > bestForce) {
                    best = set;
                    bestForce = force;
                }
            }
        }
        return best;
    }

    public long digest() {
        long d = 58223;
        for (int what = 0; what <= 10; what++) {
            d = d * 31 + many(what);
        }
        d = digestStories(d);
        d = digestTakes(d);
        d = digestLines(d);
        return digestDesks(d);
    }

    private long digestStories(long start) {
        long d = start;
        for (int s = 0; s < storyCount; s++) {
            for (int f = 0; f < FACTS; f++) {
                for (int what = 0; what <= 6; what++) {
                    d = d * 31 + ofFact(s, f, what);
                }
                d = d * 31 + needs(s, f, 50, 2);
            }
        }
        for (int s = 0; s < storyCount; s++) {
            d = d * 31 + lead(s, 55);
        }
        return d;
    }

    private long digestTakes(long start) {
        long d = start;
        for (int t = 0; t < takeCount; t++) {
            for (int what = 0; what <= 8; what++) {
                d = d * 31 + ofTake(t, what);
            }
            for (int f = 0; f < FACTS; f++) {
                d = d * 31 + says(t, f);
            }
        }
        return d;
    }

    private long digestLines(long start) {
        long d = start;
        for (int l = 0; l < lineCount; l++) {
            for (int what = 0; what <= 7; what++) {
                d = d * 31 + ofLine(l, what);
            }
            d = d * 31 + wouldArrive(l, 3, 50);
            for (int t = 0; t < takeCount; t++) {
                d = d * 31 + state(l, t);
            }
        }
        return d;
    }

    private long digestDesks(long start) {
        long d = start;
        for (int l = 0; l < lineCount; l++) {
            for (int s = 0; s < storyCount; s++) {
                for (int f = 0; f < FACTS; f++) {
                    d = d * 31 + tells(l, s, f);
                }
            }
        }
        return d;
    }

    // ---- refusals

    private void checkSource(int source) {
        if (source < 0 || source >= sources.count) {
            throw new IndexOutOfBoundsException("no such source");
        }
    }

    private void checkStory(int story) {
        if (story < 0 || story >= storyCount) {
            throw new IndexOutOfBoundsException("no such story");
        }
    }

    private void checkFact(int story, int fact) {
        checkStory(story);
        if (fact < 0 || fact >= FACTS) {
            throw new IndexOutOfBoundsException("no such fact");
        }
    }

    private void checkTake(int take) {
        if (take < 0 || take >= takeCount) {
            throw new IndexOutOfBoundsException("no such take");
        }
    }

    private void checkLine(int line) {
        if (line < 0 || line >= lineCount) {
            throw new IndexOutOfBoundsException("no such line");
        }
    }

    private static void checkValue(int value) {
        if (value < 0 || value > GREATEST_VALUE) {
            throw new IllegalArgumentException("a value must be 0 to 99");
        }
    }

    private static void checkWeight(int weight) {
        if (weight < UNNAMED || weight > OFFICIAL) {
            throw new IllegalArgumentException("a weight must be 1 to 3");
        }
    }

    private void checkRoomForTake() {
        if (takeCount >= MAX_TAKES) {
            throw new IllegalStateException("no room for a take");
        }
    }

    // ---- facts

    private Fact factAt(int story, int fact) {
        return factRows[story * FACTS + fact];
    }

    private static boolean isInSet(int set, int fact) {
        return (set >> fact & 1) == 1;
    }

    private boolean hasValues(int story, int set, boolean isGuarded) {
        for (int f = 0; f < FACTS; f++) {
            if (isInSet(set, f) && factAt(story, f).valueToFile(isGuarded) == NONE) {
                return false;
            }
        }
        return true;
    }

    private int forceOf(int story, int set) {
        int force = 0;
        for (int f = 0; f < FACTS; f++) {
            if (isInSet(set, f)) {
                force += factAt(story, f).truthForce;
            }
        }
        return force;
    }

    /** A take that was sent comes to the desk for certain, so its kill changes nothing here. */
    private int firstHad(int story, int fact) {
        int first = NONE;
        for (int t = 0; t < takeCount; t++) {
            if (takes[t].story == story && takes[t].values[fact] != NONE) {
                int minute = firstHadAnywhere(t);
                if (minute != NONE && (first == NONE || minute < first)) {
                    first = minute;
                }
            }
        }
        return first;
    }

    private int firstHadAnywhere(int take) {
        int first = NONE;
        for (int l = 0; l < lineCount; l++) {
            if (lines[l].hasAtDesk(take, now)) {
                int minute = lines[l].sentAt[take] + lines[l].lag;
                if (first == NONE || minute < first) {
                    first = minute;
                }
            }
        }
        return first;
    }

    private boolean isFirst(int story, int fact) {
        int ours = firstHad(story, fact);
        int theirs = factAt(story, fact).rivalAt;
        return ours != NONE && (theirs == NONE || ours < theirs);
    }

    private int countTruths() {
        int count = 0;
        for (int i = 0; i < storyCount * FACTS; i++) {
            if (factRows[i].truth != NONE) {
                count++;
            }
        }
        return count;
    }

    private int countUnproven() {
        int count = 0;
        for (int i = 0; i < storyCount * FACTS; i++) {
            if (factRows[i].truth == NONE && factRows[i].heard != NONE) {
                count++;
            }
        }
        return count;
    }

    private int countFirsts() {
        int count = 0;
        for (int s = 0; s < storyCount; s++) {
            for (int f = 0; f < FACTS; f++) {
                if (isFirst(s, f)) {
                    count++;
                }
            }
        }
        return count;
    }

    // ---- takes

    private static int wordsFor(int kind, int set) {
        switch (kind) {
            case FLASH: return 8;
            case KILL: return 5;
            case CORRECTION: return 15;
            case LEAD: return 20 + 15 * Integer.bitCount(set);
            default: return 60 + 30 * Integer.bitCount(set);
        }
    }

    /** Needs room for a take, and a value for each fact of the set. */
    private int addTake(int story, int kind, int set, boolean isGuarded, int hold, int target) {
        int number = takeCount;
        takeCount++;
        Take added = takes[number];
        added.story = story;
        added.kind = kind;
        added.factSet = set;
        added.words = wordsFor(kind, set);
        added.isGuarded = isGuarded;
        added.hold = hold;
        added.target = target;
        added.filedAt = now;
        for (int f = 0; f < FACTS; f++) {
            added.values[f] = isInSet(set, f) ? factAt(story, f).valueToFile(isGuarded) : NONE;
        }
        return number;
    }

    private void runOnAllLines(int take) {
        for (int l = 0; l < lineCount; l++) {
            lines[l].start(take, takes[take]);
        }
    }

    private int countKilled() {
        int count = 0;
        for (int t = 0; t < takeCount; t++) {
            if (takes[t].killedBy != NONE) {
                count++;
            }
        }
        return count;
    }

    private int countCorrections() {
        int count = 0;
        for (int t = 0; t < takeCount; t++) {
            if (takes[t].kind == CORRECTION) {
                count++;
            }
        }
        return count;
    }

    // ---- desks

    private boolean isDropped(int line, int take) {
        int kill = takes[take].killedBy;
        return kill != NONE && lines[line].hasAtDesk(kill, now);
    }

    private int toldAtDesk(int line, int story, int fact) {
        for (int t = takeCount - 1; t >= 0; t--) {
            boolean isOfFact = takes[t].story == story && takes[t].values[fact] != NONE;
            if (isOfFact && lines[line].hasAtDesk(t, now) && !isDropped(line, t)) {
                return takes[t].values[fact];
            }
        }
        return NONE;
    }

    private int countTold(int line) {
        int count = 0;
        for (int s = 0; s < storyCount; s++) {
            for (int f = 0; f < FACTS; f++) {
                if (toldAtDesk(line, s, f) != NONE) {
                    count++;
                }
            }
        }
        return count;
    }

    private int countWrong(int line) {
        int count = 0;
        for (int s = 0; s < storyCount; s++) {
            for (int f = 0; f < FACTS; f++) {
                int told = toldAtDesk(line, s, f);
                int truth = factAt(s, f).truth;
                if (told != NONE && truth != NONE && told != truth) {
                    count++;
                }
            }
        }
        return count;
    }

    private int countWrongAnywhere() {
        int count = 0;
        for (int l = 0; l < lineCount; l++) {
            count += countWrong(l);
        }
        return count;
    }

    /** The sources, each with its weight and its root. */
    private static final class Sources {
        private final int[] weight = new int[MAX_SOURCES];
        private final int[] root = new int[MAX_SOURCES];
        private int count;

        /** Needs room, and of a source that is told, or none. */
        private int add(int newWeight, int of) {
            int number = count;
            count++;
            weight[number] = newWeight;
            root[number] = of == NONE ? number : root[of];
            return number;
        }
    }

    /** The weighing of one value of a fact by the sources that say it. */
    private static final class Tally {
        private final int[] strongestOfRoot = new int[MAX_SOURCES];
        private int roots;
        private int namedRoots;
        private int officialRoots;
        private int force;

        private void weigh(Sources sources, int[] said, int value) {
            Arrays.fill(strongestOfRoot, 0);
            for (int s = 0; s < sources.count; s++) {
                if (said[s] == value) {
                    int root = sources.root[s];
                    strongestOfRoot[root] = Math.max(strongestOfRoot[root], sources.weight[s]);
                }
            }
            roots = 0;
            namedRoots = 0;
            officialRoots = 0;
            force = 0;
            for (int r = 0; r < sources.count; r++) {
                if (strongestOfRoot[r] > 0) {
                    addRoot(strongestOfRoot[r]);
                }
            }
        }

        /** One more root among those that say the value, with its greatest weight. */
        private void addRoot(int weight) {
            roots++;
            force += weight;
            if (weight == OFFICIAL) {
                officialRoots++;
            } else if (weight == NAMED) {
                namedRoots++;
            }
        }

        /** A named source behind an official one goes uncounted, as the official one is proof enough. */
        private int proofGrade() {
            if (officialRoots > 0) {
                return 3;
            }
            if (namedRoots >= 2) {
                return 2;
            }
            return roots >= 3 ? 1 : 0;
        }
    }

    /** A fact: what each source says of it, and what comes of that. */
    private static final class Fact {
        private final int[] said = new int[MAX_SOURCES];
        private int truth = NONE;
        private int truthForce;
        private int heard = NONE;
        private int rivalAt = NONE;

        private Fact() {
            Arrays.fill(said, NONE);
        }

        /** To be called whenever a source has changed what it says. */
        private void settle(Sources sources, Tally tally) {
            truth = strongest(sources, tally, true, NONE);
            truthForce = 0;
            if (truth != NONE) {
                tally.weigh(sources, said, truth);
                truthForce = tally.force;
            }
            heard = truth != NONE ? truth : strongest(sources, tally, false, NONE);
        }

        /** The value with the greatest force, of several the smallest, but for one value that is left out. */
        private int strongest(Sources sources, Tally tally, boolean isProofAsked, int leftOut) {
            int best = NONE;
            int bestForce = 0;
            for (int s = 0; s < sources.count; s++) {
                int value = said[s];
                if (value != NONE && value != leftOut) {
                    tally.weigh(sources, said, value);
                    boolean isBetter = tally.force > bestForce || (tally.force == bestForce && value < best);
                    if (isBetter && (!isProofAsked || tally.proofGrade() > 0)) {
                        best = value;
                        bestForce = tally.force;
                    }
                }
            }
            return best;
        }

        private int valueToFile(boolean isGuarded) {
            return isGuarded ? heard : truth;
        }

        private int countSayers() {
            int count = 0;
            for (int s = 0; s < said.length; s++) {
                if (said[s] != NONE) {
                    count++;
                }
            }
            return count;
        }

        private int countValues() {
            int count = 0;
            for (int s = 0; s < said.length; s++) {
                if (said[s] != NONE && !isSaidAhead(s)) {
                    count++;
                }
            }
            return count;
        }

        private boolean isSaidAhead(int source) {
            for (int s = 0; s < source; s++) {
                if (said[s] == said[source]) {
                    return true;
                }
            }
            return false;
        }
    }

    /** A take as it was filed, and the kill of it. */
    private static final class Take {
        private final int[] values = new int[FACTS];
        private int story;
        private int kind;
        private int factSet;
        private int words;
        private int hold;
        private boolean isGuarded;
        private int target = NONE;
        private int killedBy = NONE;
        private int filedAt;
    }

    /** A line, with one place more than there are takes, for the one that would be filed. */
    private static final class Line {
        private static final int PLACES = MAX_TAKES + 1;

        /** Words that are left of each take: NONE if it does not run here, 0 if it was sent. */
        private final int[] left = new int[PLACES];
        private final int[] kindOf = new int[PLACES];
        private final int[] holdOf = new int[PLACES];
        private final int[] sentAt = new int[PLACES];
        private int speed;
        private int lag;
        private int downFor;
        private int wordsSent;
        /** No take from this number on runs here. */
        private int end;

        private Line() {
            Arrays.fill(left, NONE);
            Arrays.fill(sentAt, NONE);
        }

        private void copyFrom(Line other) {
            System.arraycopy(other.left, 0, left, 0, PLACES);
            System.arraycopy(other.kindOf, 0, kindOf, 0, PLACES);
            System.arraycopy(other.holdOf, 0, holdOf, 0, PLACES);
            System.arraycopy(other.sentAt, 0, sentAt, 0, PLACES);
            speed = other.speed;
            lag = other.lag;
            downFor = other.downFor;
            wordsSent = other.wordsSent;
            end = other.end;
        }

        private void start(int number, Take take) {
            enqueue(number, take.kind, take.words, take.hold);
        }

        private void enqueue(int number, int kind, int words, int hold) {
            left[number] = words;
            kindOf[number] = kind;
            holdOf[number] = hold;
            end = number + 1;
        }

        private void stop(int take) {
            left[take] = NONE;
        }

        private boolean isRunning(int take) {
            return left[take] != NONE;
        }

        private boolean isSent(int take) {
            return left[take] == 0;
        }

        private boolean hasAtDesk(int take, int minute) {
            return left[take] == 0 && sentAt[take] + lag <= minute;
        }

        /** Returns how many takes were sent in it. */
        private int runMinute(int minute) {
            if (downFor > 0) {
                downFor--;
                return 0;
            }
            int sent = 0;
            int wordsToGo = speed;
            // Each step sends a word at least, so there are no more steps than words.
            for (int step = 0; step < speed && wordsToGo > 0; step++) {
                int take = mostUrgent(minute);
                if (take == NONE) {
                    return sent;
                }
                int words = Math.min(wordsToGo, left[take]);
                left[take] -= words;
                wordsToGo -= words;
                wordsSent += words;
                if (left[take] == 0) {
                    sentAt[take] = minute;
                    sent++;
                }
            }
            return sent;
        }

        private int mostUrgent(int minute) {
            int best = NONE;
            for (int t = 0; t < end; t++) {
                boolean isDue = left[t] > 0 && holdOf[t] <= minute;
                if (isDue && (best == NONE || kindOf[t] < kindOf[best])) {
                    best = t;
                }
            }
            return best;
        }

        /** Lets minutes go by until the desk has a take that is not sent yet; NONE, if that is too far off. */
        private int runUntilHad(int take, int start) {
            for (int minutes = 1; minutes + lag <= FORESIGHT; minutes++) {
                runMinute(start + minutes);
                if (isSent(take)) {
                    return minutes + lag;
                }
            }
            return NONE;
        }

        private int countWaiting() {
            int count = 0;
            for (int t = 0; t < end; t++) {
                if (left[t] > 0) {
                    count++;
                }
            }
            return count;
        }

        private int countWordsLeft() {
            int count = 0;
            for (int t = 0; t < end; t++) {
                if (left[t] > 0) {
                    count += left[t];
                }
            }
            return count;
        }
    }
}
