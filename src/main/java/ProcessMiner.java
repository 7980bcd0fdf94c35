/**
 * A miner of processes: it stores a log of traces, cuts it into a tree and tells which sequences are words of
 * this tree. Sets of labels are sums of the powers 2^k of their numbers k.
 */
public final class ProcessMiner {
    private static final int LABELS = 8;
    private static final int MAX_LENGTH = 12;
    private static final int MAX_TRACES = 10;
    private static final int MAX_TIMES = 99;
    private static final int MAX_ASKED_LENGTH = 3;
    private static final int MAX_EVENTS = MAX_TRACES * MAX_LENGTH;

    // A log gives away its empty traces at most once before it is cut into logs with fewer labels.
    private static final int LEVELS = 2 * LABELS;

    // At most 7 cuts with 3 nodes each (CHOICE, NOTHING, the cut) and 8 labels with 5 each
    // (CHOICE, NOTHING, AGAIN, LABEL, NOTHING): 61.
    private static final int MAX_NODES = 64;

    private static final int NOTHING = 0;
    private static final int LABEL = 1;
    private static final int CHOICE = 2;
    private static final int ORDER = 3;
    private static final int BOTH = 4;
    private static final int AGAIN = 5;
    private static final int ANY = 6;

    private static final long DIGEST_START = 167L;
    private static final long DIGEST_FACTOR = 31L;

    private final int[] buffer = new int[MAX_LENGTH];
    private int buffered = 0;

    private final int[] events = new int[MAX_EVENTS];
    private final int[] lengths = new int[MAX_TRACES];
    private final int[] traceTimes = new int[MAX_TRACES];
    private int stored = 0;

    private final Log[] levels = new Log[LEVELS];
    private final Matcher matcher = new Matcher();
    private final Tree tree = matcher.tree;
    private boolean mined = false;

    public ProcessMiner() {
        for (int i = 0; i < LEVELS; i++) {
            levels[i] = new Log();
        }
    }

    public int event(int label) throws IndexOutOfBoundsException, IllegalStateException {
        checkLabel(label);
        if (buffered >= MAX_LENGTH) {
            throw new IllegalStateException("the buffer is full");
        }
        buffer[buffered] = label;
        buffered++;
        return buffered;
    }

    public int endTrace(int times) throws IllegalArgumentException, IllegalStateException {
        checkTimes(times);
        if (stored >= MAX_TRACES) {
            throw new IllegalStateException("the log is full");
        }
        int trace = stored;
        for (int i = 0; i < buffered; i++) {
            events[trace * MAX_LENGTH + i] = buffer[i];
        }
        lengths[trace] = buffered;
        traceTimes[trace] = times;
        stored++;
        buffered = 0;
        mined = false;
        return trace;
    }

    public int setTimes(int trace, int times) throws IndexOutOfBoundsException, IllegalArgumentException {
        checkTrace(trace);
        checkTimes(times);
        int before = traceTimes[trace];
        traceTimes[trace] = times;
        mined = false;
        return before;
    }

    public int dropTrace() throws IllegalStateException {
        if (stored <= 0) {
            throw new IllegalStateException("there is no trace");
        }
        stored--;
        mined = false;
        return stored;
    }

    public int traceCount() {
        return stored;
    }

    public int length(int trace) throws IndexOutOfBoundsException {
        checkTrace(trace);
        return lengths[trace];
    }

    public int labelAt(int trace, int place) throws IndexOutOfBoundsException {
        checkTrace(trace);
        if (place < 0 || place >= lengths[trace]) {
            throw new IndexOutOfBoundsException("no such place");
        }
        return events[trace * MAX_LENGTH + place];
    }

    public int labels() {
        return readLog().used;
    }

    public int follows(int a, int b) throws IndexOutOfBoundsException {
        checkLabel(a);
        checkLabel(b);
        int sum = 0;
        for (int t = 0; t < stored; t++) {
            sum += traceTimes[t] * countPairs(t, a, b);
        }
        return sum;
    }

    public int edges(boolean isEnd) {
        Log log = readLog();
        return isEnd ? log.ending : log.beginning;
    }

    public int relation(int a, int b) throws IndexOutOfBoundsException {
        checkLabel(a);
        checkLabel(b);
        Log log = readLog();
        int forth = contains(log.next[a], b) ? 1 : 0;
        int back = contains(log.next[b], a) ? 2 : 0;
        return forth + back;
    }

    public boolean leads(int a, int b) throws IndexOutOfBoundsException {
        checkLabel(a);
        checkLabel(b);
        Log log = readLog();
        log.findReach();
        return contains(log.reach[a], b);
    }

    public int variants() {
        int count = 0;
        for (int t = 0; t < stored; t++) {
            if (traceTimes[t] > 0 && !isRepeated(t)) {
                count++;
            }
        }
        return count;
    }

    public int mine() {
        if (!mined) {
            readLog();
            tree.size = 0;
            grow(levels, tree, 0, -1);
            mined = true;
        }
        return tree.size;
    }

    public int kind(int node) throws IllegalStateException, IndexOutOfBoundsException {
        checkNode(node);
        return tree.kinds[node];
    }

    public int labelsOf(int node) throws IllegalStateException, IndexOutOfBoundsException {
        checkNode(node);
        return tree.sets[node];
    }

    public int parent(int node) throws IllegalStateException, IndexOutOfBoundsException {
        checkNode(node);
        return tree.parents[node];
    }

    public int children(int node) throws IllegalStateException, IndexOutOfBoundsException {
        checkNode(node);
        return tree.childCounts[node];
    }

    public int child(int node, int index) throws IllegalStateException, IndexOutOfBoundsException {
        checkNode(node);
        if (index < 0 || index >= tree.childCounts[node]) {
            throw new IndexOutOfBoundsException("no such child");
        }
        return tree.childOf(node, index);
    }

    public int shortest(int node) throws IllegalStateException, IndexOutOfBoundsException {
        checkNode(node);
        return tree.leastLabels(node);
    }

    public int height() throws IllegalStateException {
        checkMined();
        return tree.countLevels();
    }

    public boolean accepts(int trace) throws IllegalStateException, IndexOutOfBoundsException {
        checkMined();
        checkTrace(trace);
        return matcher.matches(events, trace * MAX_LENGTH, lengths[trace]);
    }

    public boolean acceptsBuffer() throws IllegalStateException {
        checkMined();
        return matcher.matches(buffer, 0, buffered);
    }

    public double fitness() throws IllegalStateException {
        checkMined();
        if (stored == 0) {
            return 1.0;
        }
        int accepted = 0;
        for (int t = 0; t < stored; t++) {
            if (matcher.matches(events, t * MAX_LENGTH, lengths[t])) {
                accepted++;
            }
        }
        return (double) accepted / (double) stored;
    }

    public int words(int length) throws IllegalStateException, IllegalArgumentException {
        checkMined();
        if (length < 0 || length > MAX_ASKED_LENGTH) {
            throw new IllegalArgumentException("the length is not 0 to 3");
        }
        return matcher.countWords(length);
    }

    public long digest() {
        long d = DIGEST_START;
        d = digestRow(addTo(d, buffered), buffer, 0, buffered);
        d = addTo(d, stored);
        for (int t = 0; t < stored; t++) {
            d = addTo(addTo(d, traceTimes[t]), lengths[t]);
            d = digestRow(d, events, t * MAX_LENGTH, lengths[t]);
        }
        if (mined) {
            d = addTo(d, tree.size);
            for (int n = 0; n < tree.size; n++) {
                d = addTo(addTo(addTo(d, tree.kinds[n]), tree.sets[n]), tree.childCounts[n]);
            }
        }
        return d;
    }

    private static void checkLabel(int label) {
        if (label < 0 || label >= LABELS) {
            throw new IndexOutOfBoundsException("no such label");
        }
    }

    private static void checkTimes(int times) {
        if (times < 0 || times > MAX_TIMES) {
            throw new IllegalArgumentException("the times are not 0 to 99");
        }
    }

    private void checkTrace(int trace) {
        if (trace < 0 || trace >= stored) {
            throw new IndexOutOfBoundsException("no such trace");
        }
    }

    private void checkMined() {
        if (!mined) {
            throw new IllegalStateException("nothing was mined since the last change");
        }
    }

    private void checkNode(int node) {
        checkMined();
        if (node < 0 || node >= tree.size) {
            throw new IndexOutOfBoundsException("no such node");
        }
    }

    private static boolean contains(int set, int label) {
        return (set >> label & 1) != 0;
    }

    private int countPairs(int trace, int a, int b) {
        int start = trace * MAX_LENGTH;
        int count = 0;
        for (int i = 1; i < lengths[trace]; i++) {
            if (events[start + i - 1] == a && events[start + i] == b) {
                count++;
            }
        }
        return count;
    }

    private boolean isRepeated(int trace) {
        for (int t = 0; t < trace; t++) {
            if (traceTimes[t] > 0 && isSame(t, trace)) {
                return true;
            }
        }
        return false;
    }

    private boolean isSame(int trace, int other) {
        if (lengths[trace] != lengths[other]) {
            return false;
        }
        for (int i = 0; i < lengths[trace]; i++) {
            if (events[trace * MAX_LENGTH + i] != events[other * MAX_LENGTH + i]) {
                return false;
            }
        }
        return true;
    }

    private static long addTo(long digest, int number) {
        return digest * DIGEST_FACTOR + number;
    }

    private static long digestRow(long digest, int[] row, int start, int count) {
        long d = digest;
        for (int i = 0; i < count; i++) {
            d = addTo(d, row[start + i]);
        }
        return d;
    }

    /** Puts the traces with 1 time or more into the first level and looks how their labels follow each other. */
    private Log readLog() {
        Log log = levels[0];
        log.clear();
        for (int t = 0; t < stored; t++) {
            if (traceTimes[t] > 0) {
                for (int i = 0; i < lengths[t]; i++) {
                    log.append(events[t * MAX_LENGTH + i]);
                }
                log.closeTrace();
            }
        }
        log.measure();
        return log;
    }

    /** Adds the tree of the measured log at this depth; the logs of its parts use the next level in turn. */
    private static void grow(Log[] levels, Tree tree, int depth, int parent) {
        if (depth < 0 || depth >= levels.length) {
            return;
        }
        Log log = levels[depth];
        int kind = log.cut();
        int node = tree.add(kind, log.used, parent);
        if (kind == CHOICE && log.hasEmpty) {
            tree.add(NOTHING, 0, node);
        }
        if (kind == AGAIN && log.partCount == 0) {
            tree.add(LABEL, log.used, node);
            tree.add(NOTHING, 0, node);
        }
        for (int i = 0; i < log.partCount; i++) {
            if (depth + 1 < levels.length) {
                levels[depth + 1].take(log, log.parts[i], kind);
                grow(levels, tree, depth + 1, node);
            }
        }
    }

    /** A log or a smaller one, cut from it; its traces need no times, since those with none are left aside. */
    private static final class Log {
        final int[] events = new int[MAX_EVENTS];
        // A cut makes no more pieces than there are events, so this row never runs over either.
        final int[] ends = new int[MAX_EVENTS];
        int size = 0;
        int traces = 0;

        int used = 0;
        int beginning = 0;
        int ending = 0;
        boolean hasEmpty = false;
        final int[] next = new int[LABELS];
        final int[] reach = new int[LABELS];

        final int[] near = new int[LABELS];
        final int[] parts = new int[LABELS];
        int partCount = 0;

        void clear() {
            size = 0;
            traces = 0;
        }

        void append(int label) {
            if (size < events.length) {
                events[size] = label;
                size++;
            }
        }

        void closeTrace() {
            if (traces < ends.length) {
                ends[traces] = size;
                traces++;
            }
        }

        private int openStart() {
            return traces > 0 ? ends[traces - 1] : 0;
        }

        /** Becomes the log of a part of another log, which was cut by a rule that makes this kind. */
        void take(Log from, int part, int kind) {
            boolean keepsEmpty = kind == ORDER || kind == BOTH;
            clear();
            int start = 0;
            for (int t = 0; t < from.traces; t++) {
                takeTrace(from, start, from.ends[t], part, kind == AGAIN);
                if (keepsEmpty || size > openStart()) {
                    closeTrace();
                }
                start = from.ends[t];
            }
            measure();
        }

        private void takeTrace(Log from, int start, int end, int part, boolean isSplit) {
            for (int i = start; i < end; i++) {
                if (contains(part, from.events[i])) {
                    append(from.events[i]);
                } else if (isSplit && size > openStart()) {
                    closeTrace();
                }
            }
        }

        void measure() {
            used = 0;
            beginning = 0;
            ending = 0;
            hasEmpty = false;
            for (int a = 0; a < LABELS; a++) {
                next[a] = 0;
            }
            int start = 0;
            for (int t = 0; t < traces; t++) {
                measureTrace(start, ends[t]);
                start = ends[t];
            }
        }

        private void measureTrace(int start, int end) {
            if (start >= end) {
                hasEmpty = true;
                return;
            }
            beginning |= 1 << events[start];
            ending |= 1 << events[end - 1];
            used |= 1 << events[start];
            for (int i = start + 1; i < end; i++) {
                used |= 1 << events[i];
                next[events[i - 1]] |= 1 << events[i];
            }
        }

        void findReach() {
            for (int a = 0; a < LABELS; a++) {
                reach[a] = next[a];
            }
            for (int way = 0; way < LABELS; way++) {
                for (int a = 0; a < LABELS; a++) {
                    if (contains(reach[a], way)) {
                        reach[a] |= reach[way];
                    }
                }
            }
        }

        /** Finds the first rule that fits and the parts whose logs are mined on; tells the kind of the node. */
        int cut() {
            partCount = 0;
            if (used == 0) {
                return NOTHING;
            }
            if (hasEmpty) {
                addPart(used);
                return CHOICE;
            }
            if (Integer.bitCount(used) == 1) {
                return hasNext() ? AGAIN : LABEL;
            }
            if (isCutByChoice()) {
                return CHOICE;
            }
            if (isCutByOrder()) {
                return ORDER;
            }
            if (isCutByBoth()) {
                return BOTH;
            }
            if (isCutByAgain()) {
                return AGAIN;
            }
            partCount = 0;
            return ANY;
        }

        private boolean hasNext() {
            for (int a = 0; a < LABELS; a++) {
                if (next[a] != 0) {
                    return true;
                }
            }
            return false;
        }

        private boolean isCutByChoice() {
            partCount = 0;
            linkNeighbours();
            addGroups(used);
            return partCount > 1;
        }

        private boolean isCutByOrder() {
            partCount = 0;
            findReach();
            for (int a = 0; a < LABELS; a++) {
                near[a] = 0;
                for (int b = 0; b < LABELS; b++) {
                    if (contains(reach[a], b) == contains(reach[b], a)) {
                        near[a] |= 1 << b;
                    }
                }
            }
            addGroups(used);
            sortByReach();
            return partCount > 1;
        }

        private boolean isCutByBoth() {
            partCount = 0;
            for (int a = 0; a < LABELS; a++) {
                near[a] = 0;
                for (int b = 0; b < LABELS; b++) {
                    if (!contains(next[a], b) || !contains(next[b], a)) {
                        near[a] |= 1 << b;
                    }
                }
            }
            addGroups(used);
            joinLacking();
            return partCount > 1;
        }

        private boolean isCutByAgain() {
            partCount = 0;
            int first = beginning | ending;
            addPart(first);
            linkNeighbours();
            addGroups(used & ~first);
            int kept = 1;
            // One pass is enough: no label of a joined part follows one of the parts that are left, or is
            // followed by one, so that the first part pulls in nothing more by having grown.
            for (int i = 1; i < partCount; i++) {
                if (belongsToFirst(parts[i])) {
                    parts[0] |= parts[i];
                } else {
                    parts[kept] = parts[i];
                    kept++;
                }
            }
            partCount = kept;
            return partCount > 1;
        }

        private void addPart(int part) {
            if (partCount < parts.length) {
                parts[partCount] = part;
                partCount++;
            }
        }

        private void linkNeighbours() {
            for (int a = 0; a < LABELS; a++) {
                near[a] = next[a];
                for (int b = 0; b < LABELS; b++) {
                    if (contains(next[b], a)) {
                        near[a] |= 1 << b;
                    }
                }
            }
        }

        /** Adds the finest parts of a set such that labels that are near each other are not torn apart. */
        private void addGroups(int set) {
            int left = set;
            for (int a = 0; a < LABELS; a++) {
                if (contains(left, a)) {
                    int group = groupOf(a, set);
                    addPart(group);
                    left &= ~group;
                }
            }
        }

        private int groupOf(int label, int set) {
            int group = 1 << label;
            for (int round = 0; round < LABELS; round++) {
                for (int a = 0; a < LABELS; a++) {
                    if (contains(group, a)) {
                        group |= near[a] & set;
                    }
                }
            }
            return group;
        }

        private void sortByReach() {
            for (int i = 0; i < partCount; i++) {
                for (int j = i + 1; j < partCount; j++) {
                    if (leadsInto(parts[j], parts[i])) {
                        int later = parts[i];
                        parts[i] = parts[j];
                        parts[j] = later;
                    }
                }
            }
        }

        private boolean leadsInto(int part, int other) {
            for (int a = 0; a < LABELS; a++) {
                if (contains(part, a) && (reach[a] & other) != 0) {
                    return true;
                }
            }
            return false;
        }

        private void joinLacking() {
            for (int round = 0; round < LABELS; round++) {
                int lacking = firstLacking();
                if (lacking < 0 || partCount < 2) {
                    return;
                }
                // The first of the others is part 0, or part 1 for part 0 itself: part 0 takes up the other one.
                joinToFirst(lacking == 0 ? 1 : lacking);
            }
        }

        private int firstLacking() {
            for (int i = 0; i < partCount; i++) {
                if ((parts[i] & beginning) == 0 || (parts[i] & ending) == 0) {
                    return i;
                }
            }
            return -1;
        }

        private void joinToFirst(int joined) {
            parts[0] |= parts[joined];
            partCount--;
            for (int i = joined; i < partCount; i++) {
                parts[i] = parts[i + 1];
            }
        }

        private boolean belongsToFirst(int part) {
            int onlyBeginning = beginning & ~ending;
            int onlyEnding = ending & ~beginning;
            for (int a = 0; a < LABELS; a++) {
                if (contains(onlyBeginning, a) && (next[a] & part) != 0) {
                    return true;
                }
                if (contains(part, a) && (next[a] & onlyEnding) != 0) {
                    return true;
                }
            }
            return false;
        }
    }

    /** The nodes of a tree, numbered so that a node comes ahead of all that is below it. */
    private static final class Tree {
        final int[] kinds = new int[MAX_NODES];
        final int[] sets = new int[MAX_NODES];
        final int[] parents = new int[MAX_NODES];
        final int[] childCounts = new int[MAX_NODES];
        private final int[] childNodes = new int[MAX_NODES * LABELS];
        private final int[] sums = new int[MAX_NODES];
        int size = 0;

        int add(int kind, int set, int parent) {
            if (size >= MAX_NODES) {
                return -1;
            }
            int node = size;
            kinds[node] = kind;
            sets[node] = set;
            parents[node] = parent;
            childCounts[node] = 0;
            size++;
            if (parent >= 0 && parent < node && childCounts[parent] < LABELS) {
                childNodes[parent * LABELS + childCounts[parent]] = node;
                childCounts[parent]++;
            }
            return node;
        }

        int childOf(int node, int index) {
            return childNodes[node * LABELS + index];
        }

        int leastLabels(int node) {
            for (int n = size - 1; n >= node; n--) {
                sums[n] = leastByChildren(n);
            }
            return sums[node];
        }

        private int leastByChildren(int node) {
            switch (kinds[node]) {
                case LABEL:
                    return 1;
                case CHOICE:
                    return leastOfChildren(node);
                case ORDER:
                case BOTH:
                    return sumOfChildren(node);
                case AGAIN:
                    return sums[childOf(node, 0)];
                default:
                    return 0;
            }
        }

        private int leastOfChildren(int node) {
            int least = sums[childOf(node, 0)];
            for (int i = 1; i < childCounts[node]; i++) {
                least = Math.min(least, sums[childOf(node, i)]);
            }
            return least;
        }

        private int sumOfChildren(int node) {
            int sum = 0;
            for (int i = 0; i < childCounts[node]; i++) {
                sum += sums[childOf(node, i)];
            }
            return sum;
        }

        int countLevels() {
            int most = 0;
            for (int n = 0; n < size; n++) {
                sums[n] = parents[n] < 0 ? 1 : sums[parents[n]] + 1;
                most = Math.max(most, sums[n]);
            }
            return most;
        }
    }

    /**
     * Tells whether a sequence is a word of a tree. The children of a node never share a label, so a node
     * looks at the labels of its own set alone and leaves out what the others have mixed in between.
     */
    private static final class Matcher {
        private static final int PLACES = MAX_LENGTH + 1;

        final Tree tree = new Tree();
        private final int[] word = new int[MAX_LENGTH];
        private int wordLength = 0;
        // For a node and a start: the set of the ends such that the node's labels between make a word of it.
        private final int[] ends = new int[MAX_NODES * PLACES];

        boolean matches(int[] row, int from, int count) {
            int used = 0;
            for (int i = 0; i < count; i++) {
                word[i] = 1 << row[from + i];
                used |= word[i];
            }
            wordLength = count;
            if ((used & ~tree.sets[0]) != 0) {
                return false;
            }
            for (int start = wordLength; start >= 0; start--) {
                readFrom(start);
            }
            return isWhole();
        }

        int countWords(int count) {
            wordLength = count;
            readFrom(count);
            return countSpelt(this, count - 1);
        }

        /** Counts the words that end with what stands behind a place, whose labels were read already. */
        private static int countSpelt(Matcher matcher, int place) {
            if (place < 0 || place >= MAX_LENGTH) {
                return matcher.isWhole() ? 1 : 0;
            }
            int sum = 0;
            for (int a = 0; a < LABELS; a++) {
                if (contains(matcher.tree.sets[0], a)) {
                    matcher.word[place] = 1 << a;
                    matcher.readFrom(place);
                    sum += countSpelt(matcher, place - 1);
                }
            }
            return sum;
        }

        private boolean isWhole() {
            return (ends[0] >> wordLength & 1) != 0;
        }

        /** Finds the ends of all nodes for a start; those for the starts behind it must be found before. */
        private void readFrom(int start) {
            for (int n = tree.size - 1; n >= 0; n--) {
                ends[n * PLACES + start] = endsOf(n, start);
            }
        }

        private int endsOf(int node, int start) {
            switch (tree.kinds[node]) {
                case LABEL:
                    return endsOfLabel(node, start);
                case CHOICE:
                    return endsOfAlternatives(node, 0, start);
                case ORDER:
                    return endsOfOrder(node, start);
                case BOTH:
                    return endsOfBoth(node, start);
                case AGAIN:
                    return endsOfAgain(node, start);
                default:
                    return allEnds(start);
            }
        }

        private int allEnds(int start) {
            int all = 0;
            for (int end = start; end <= wordLength; end++) {
                all |= 1 << end;
            }
            return all;
        }

        private int endsOfLabel(int node, int start) {
            int found = 0;
            int result = 0;
            for (int i = start; i < wordLength; i++) {
                if (word[i] == tree.sets[node]) {
                    found++;
                }
                if (found == 1) {
                    result |= 1 << (i + 1);
                }
            }
            return result;
        }

        private int endsOfAlternatives(int node, int firstIndex, int start) {
            int result = 0;
            for (int i = firstIndex; i < tree.childCounts[node]; i++) {
                result |= endsOfChild(node, tree.childOf(node, i), start);
            }
            return result;
        }

        private int endsOfOrder(int node, int start) {
            int reached = 1 << start;
            for (int i = 0; i < tree.childCounts[node]; i++) {
                int further = 0;
                for (int at = start; at <= wordLength; at++) {
                    if (contains(reached, at)) {
                        further |= endsOfChild(node, tree.childOf(node, i), at);
                    }
                }
                reached = further;
            }
            return reached;
        }

        private int endsOfBoth(int node, int start) {
            int result = allEnds(start);
            for (int i = 0; i < tree.childCounts[node]; i++) {
                result &= ends[tree.childOf(node, i) * PLACES + start];
            }
            return result;
        }

        private int endsOfAgain(int node, int start) {
            int once = endsOfChild(node, tree.childOf(node, 0), start);
            int between = 0;
            for (int at = start; at <= wordLength; at++) {
                if (contains(once, at)) {
                    between |= endsOfAlternatives(node, 1, at);
                }
            }
            int result = once;
            // What went back to the start itself has read nothing and leads to no other ends.
            for (int at = start + 1; at <= wordLength; at++) {
                if (contains(between, at)) {
                    result |= ends[node * PLACES + at];
                }
            }
            return result;
        }

        /** The ends that a child reaches before a label of its siblings comes. */
        private int endsOfChild(int node, int child, int start) {
            int foreign = tree.sets[node] & ~tree.sets[child];
            int last = start;
            while (last < wordLength && (word[last] & foreign) == 0) {
                last++;
            }
            return ends[child * PLACES + start] & ((2 << last) - 1);
        }
    }
}
