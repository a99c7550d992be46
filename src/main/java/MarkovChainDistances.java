/**
 * A calculator for behavioural distances of a finite labelled Markov chain. The numbered promises of the
 * project's document say what each method answers.
 *
 * All rows are made by the constructors and used again, so that no call makes an object.
 */
public final class MarkovChainDistances {
    public static final int BAD_ARGUMENT = -1;
    public static final int NO_SUCH_STATE = -2;
    public static final int INSUFFICIENT_WEIGHT = -3;
    public static final int DEPTH_UNSUPPORTED = -4;
    public static final int NOTHING_TO_UNDO = -5;
    public static final int BUFFER_FULL = -6;
    public static final int NONE = -7;
    public static final int INCONSISTENT = -8;
    public static final int EMPTY_SLOT = -11;
    public static final int WRONG_TYPE = -12;
    public static final int INDEX_OUT_OF_RANGE = -13;
    public static final int NEGATIVE_SIZE = -14;
    public static final long NO_VALUE = Long.MIN_VALUE;

    private static final int MAX_STATES = 6;
    private static final int MAX_CELLS = 36;
    private static final int MAX_RESOLUTION = 12;
    private static final int MAX_LABEL = 3;
    private static final int MAX_LABEL_SET = 15;
    private static final int MAX_DISCOUNT_DENOMINATOR = 4;
    private static final int MAX_EDITS = 10;
    private static final int MAX_DEPTH = 15;
    private static final int EVERY_DEPTH = 99;
    private static final long MAX_SCALE = 1000000000000000L;
    private static final int MAX_PATH_STEPS = 12;
    private static final int MAX_SAMPLE_STEPS = 1000;
    private static final int MAX_INPUT = 80;
    private static final int MAX_BYTE = 127;
    private static final int MALFORMED_AT_START = -1000;
    private static final int SLOTS = 4;
    private static final int MAX_ARRAY_SIZE = 40;

    private final Chain chain;
    private final Chain draft;
    private final Chain saved;
    private boolean hasSaved;
    private final EditHistory edits;
    private final Distances distances;
    private final Partition partition;
    private final PathCounter paths;
    private final ChainReader reader;
    private final InputBuffer input;
    private final ArraySlots arrays;

    public MarkovChainDistances() {
        chain = new Chain();
        draft = new Chain();
        saved = new Chain();
        hasSaved = false;
        edits = new EditHistory();
        distances = new Distances();
        partition = new Partition();
        paths = new PathCounter();
        reader = new ChainReader();
        input = reader.text;
        arrays = new ArraySlots();
    }

    // ---- the chain and its edits

    public int reset(int states, int resolution) {
        if (!isWithin(states, 1, MAX_STATES) || !isWithin(resolution, 1, MAX_RESOLUTION)) {
            return BAD_ARGUMENT;
        }
        int previous = chain.size;
        chain.start(states, resolution);
        edits.forgetAll();
        return previous;
    }

    public int states() {
        return chain.size;
    }

    public int resolution() {
        return chain.total;
    }

    public int setLabel(int state, int label) {
        if (!chain.has(state)) {
            return NO_SUCH_STATE;
        }
        if (!isWithin(label, 0, MAX_LABEL)) {
            return BAD_ARGUMENT;
        }
        int previous = chain.labels[state];
        if (previous != label) {
            edits.remember(chain);
            chain.labels[state] = label;
        }
        return previous;
    }

    public int label(int state) {
        if (!chain.has(state)) {
            return NO_SUCH_STATE;
        }
        return chain.labels[state];
    }

    public int moveWeight(int state, int from, int to, int amount) {
        if (!chain.has(state) || !chain.has(from) || !chain.has(to)) {
            return NO_SUCH_STATE;
        }
        if (!isWithin(amount, 0, MAX_RESOLUTION)) {
            return BAD_ARGUMENT;
        }
        int fromCell = state * MAX_STATES + from;
        int toCell = state * MAX_STATES + to;
        if (amount > chain.weights[fromCell]) {
            return INSUFFICIENT_WEIGHT;
        }
        if (from != to && amount > 0) {
            edits.remember(chain);
            chain.weights[fromCell] -= amount;
            chain.weights[toCell] += amount;
        }
        return chain.weights[toCell];
    }

    public int weight(int from, int to) {
        if (!chain.has(from) || !chain.has(to)) {
            return NO_SUCH_STATE;
        }
        return chain.weights[from * MAX_STATES + to];
    }

    public int setDiscount(int numerator, int denominator) {
        if (!isWithin(denominator, 1, MAX_DISCOUNT_DENOMINATOR) || !isWithin(numerator, 0, denominator)) {
            return BAD_ARGUMENT;
        }
        if (numerator == chain.discountTop && denominator == chain.discountBottom) {
            return 0;
        }
        edits.remember(chain);
        chain.discountTop = numerator;
        chain.discountBottom = denominator;
        return 1;
    }

    public int swapStates(int first, int second) {
        if (!chain.has(first) || !chain.has(second)) {
            return NO_SUCH_STATE;
        }
        draft.copySwapped(chain, first, second);
        if (draft.sameAs(chain)) {
            return 0;
        }
        edits.remember(chain);
        chain.copyFrom(draft);
        return 1;
    }

    public int undo() {
        if (edits.count == 0) {
            return NOTHING_TO_UNDO;
        }
        edits.takeLast(chain);
        return edits.count;
    }

    public int editCount() {
        return edits.count;
    }

    // ---- distances

    public int maximumDepth() {
        return greatestDepth();
    }

    public long distanceNumerator(int depth, int first, int second) {
        if (!hasDistance(depth, first, second)) {
            return NO_VALUE;
        }
        long[] level = distances.levelFor(chain, depth);
        return distances.inLowestTerms(level[first * MAX_STATES + second], depth, true);
    }

    public long distanceDenominator(int depth, int first, int second) {
        if (!hasDistance(depth, first, second)) {
            return NO_VALUE;
        }
        long[] level = distances.levelFor(chain, depth);
        return distances.inLowestTerms(level[first * MAX_STATES + second], depth, false);
    }

    public int compareDistances(int depth, int firstPair, int secondPair) {
        if (!isWithin(depth, 0, MAX_DEPTH)) {
            return BAD_ARGUMENT;
        }
        if (!isPair(firstPair) || !isPair(secondPair)) {
            return NO_SUCH_STATE;
        }
        if (depth > greatestDepth()) {
            return DEPTH_UNSUPPORTED;
        }
        long[] level = distances.levelFor(chain, depth);
        long firstDistance = level[cellOfPair(firstPair)];
        long secondDistance = level[cellOfPair(secondPair)];
        if (firstDistance == secondDistance) {
            return 1;
        }
        return firstDistance < secondDistance ? 0 : 2;
    }

    public int farthestPair(int depth) {
        if (!isWithin(depth, 0, MAX_DEPTH)) {
            return BAD_ARGUMENT;
        }
        if (depth > greatestDepth()) {
            return DEPTH_UNSUPPORTED;
        }
        long[] level = distances.levelFor(chain, depth);
        int farthest = NONE;
        long largest = -1;
        for (int first = 0; first < chain.size; first++) {
            for (int second = first + 1; second < chain.size; second++) {
                long distance = level[first * MAX_STATES + second];
                if (distance > largest) {
                    largest = distance;
                    farthest = 10 * first + second;
                }
            }
        }
        return farthest;
    }

    public int coupling(int depth, int pair, int row, int column) {
        if (!isWithin(depth, 0, MAX_DEPTH)) {
            return BAD_ARGUMENT;
        }
        if (!isPair(pair) || !chain.has(row) || !chain.has(column)) {
            return NO_SUCH_STATE;
        }
        if (depth > greatestDepth()) {
            return DEPTH_UNSUPPORTED;
        }
        long[] level = distances.levelFor(chain, depth);
        int[] optimal = distances.canonicalCoupling(level, pair / 10, pair % 10);
        return optimal[row * MAX_STATES + column];
    }

    public int distributionDistance(int first, int second, int kind) {
        if (!chain.has(first) || !chain.has(second)) {
            return NO_SUCH_STATE;
        }
        switch (kind) {
            case 0:
                return totalVariation(first, second);
            case 1:
                return largestDifference(first, second);
            case 2:
                return cumulativeDistance(first, second);
            case 3:
                return overlap(first, second);
            default:
                return BAD_ARGUMENT;
        }
    }

    private int totalVariation(int first, int second) {
        int sum = 0;
        for (int u = 0; u < chain.size; u++) {
            sum += Math.abs(weightDifference(first, second, u));
        }
        return sum / 2;
    }

    private int largestDifference(int first, int second) {
        int largest = 0;
        for (int u = 0; u < chain.size; u++) {
            largest = Math.max(largest, Math.abs(weightDifference(first, second, u)));
        }
        return largest;
    }

    private int cumulativeDistance(int first, int second) {
        int sum = 0;
        int ahead = 0;
        for (int u = 0; u < chain.size - 1; u++) {
            ahead += weightDifference(first, second, u);
            sum += Math.abs(ahead);
        }
        return sum;
    }

    private int overlap(int first, int second) {
        int sum = 0;
        for (int u = 0; u < chain.size; u++) {
            sum += Math.min(chain.weights[first * MAX_STATES + u], chain.weights[second * MAX_STATES + u]);
        }
        return sum;
    }

    private int weightDifference(int first, int second, int successor) {
        return chain.weights[first * MAX_STATES + successor] - chain.weights[second * MAX_STATES + successor];
    }

    private int greatestDepth() {
        long base = (long) chain.discountBottom * chain.total;
        if (base <= 1) {
            return EVERY_DEPTH;
        }
        int depth = 0;
        long power = base;
        while (power <= MAX_SCALE && depth < EVERY_DEPTH) {
            depth++;
            power *= base;
        }
        return depth;
    }

    private boolean hasDistance(int depth, int first, int second) {
        return isWithin(depth, 0, MAX_DEPTH) && depth <= greatestDepth() && chain.has(first) && chain.has(second);
    }

    private boolean isPair(int pair) {
        return pair >= 0 && chain.has(pair / 10) && chain.has(pair % 10);
    }

    private static int cellOfPair(int pair) {
        return pair / 10 * MAX_STATES + pair % 10;
    }

    private static boolean isWithin(int value, int lowest, int highest) {
        return value >= lowest && value <= highest;
    }

    // ---- bisimulation

    public int bisimulationClass(int state) {
        if (!chain.has(state)) {
            return NO_SUCH_STATE;
        }
        partition.refineFully(chain);
        return partition.classOf[state];
    }

    public int bisimulationClassCount() {
        partition.refineFully(chain);
        return partition.classCount;
    }

    public int minimize() {
        partition.refineFully(chain);
        partition.writeQuotient(chain, draft);
        chain.copyFrom(draft);
        edits.forgetAll();
        return chain.size;
    }

    // ---- paths

    public long reachWeight(int state, int labels, int steps) {
        if (!chain.has(state) || !isWithin(labels, 0, MAX_LABEL_SET) || !isWithin(steps, 0, MAX_PATH_STEPS)) {
            return NO_VALUE;
        }
        return paths.countReaching(chain, state, labels, steps);
    }

    public long firstReachWeight(int state, int labels, int limit) {
        if (!chain.has(state) || !isWithin(labels, 0, MAX_LABEL_SET) || !isWithin(limit, 0, MAX_PATH_STEPS)) {
            return NO_VALUE;
        }
        return paths.countFirstReaching(chain, state, labels, limit);
    }

    public long sequenceWeight(int state) {
        long answer = NO_VALUE;
        if (chain.has(state) && input.isLabelSequence()) {
            answer = paths.countSequence(chain, state, input);
        }
        input.empty();
        return answer;
    }

    public int sample(int state, int seed, int steps) {
        if (!chain.has(state)) {
            return NO_SUCH_STATE;
        }
        if (!isWithin(steps, 0, MAX_SAMPLE_STEPS)) {
            return BAD_ARGUMENT;
        }
        int current = state;
        int x = seed;
        for (int step = 0; step < steps; step++) {
            x = nextSeed(x);
            current = chain.successorAt(current, x >>> 16);
        }
        return current;
    }

    public int sampledVisits(int state, int seed, int steps, int label) {
        if (!chain.has(state)) {
            return NO_SUCH_STATE;
        }
        if (!isWithin(steps, 0, MAX_SAMPLE_STEPS) || !isWithin(label, 0, MAX_LABEL)) {
            return BAD_ARGUMENT;
        }
        int current = state;
        int x = seed;
        int visits = chain.labels[current] == label ? 1 : 0;
        for (int step = 0; step < steps; step++) {
            x = nextSeed(x);
            current = chain.successorAt(current, x >>> 16);
            if (chain.labels[current] == label) {
                visits++;
            }
        }
        return visits;
    }

    private static int nextSeed(int seed) {
        return seed * 1103515245 + 12345;
    }

    // ---- the input buffer

    public int append(int bytes, int count) {
        if (!isWithin(count, 1, 4)) {
            return BAD_ARGUMENT;
        }
        for (int place = 0; place < count; place++) {
            if (byteAt(bytes, place) > MAX_BYTE) {
                return BAD_ARGUMENT;
            }
        }
        if (input.length + count > MAX_INPUT) {
            return BUFFER_FULL;
        }
        for (int place = count - 1; place >= 0; place--) {
            input.add(byteAt(bytes, place));
        }
        return input.length;
    }

    private static int byteAt(int bytes, int place) {
        return (bytes >>> (8 * place)) & 255;
    }

    public int clearInput() {
        int held = input.length;
        input.empty();
        return held;
    }

    public int parse() {
        int answer = reader.readInput();
        if (answer > 0) {
            reader.writeTo(chain);
            edits.forgetAll();
        }
        input.empty();
        return answer;
    }

    // ---- the array slots

    public int allocate(int slot, int type, int size) {
        if (!isSlot(slot) || !isWithin(type, 0, ArraySlots.LONG) || size > MAX_ARRAY_SIZE) {
            return BAD_ARGUMENT;
        }
        if (size < 0) {
            return NEGATIVE_SIZE;
        }
        arrays.fillNew(slot, type, size);
        return size;
    }

    public int release(int slot) {
        if (!isSlot(slot)) {
            return BAD_ARGUMENT;
        }
        if (arrays.isEmpty(slot)) {
            return 0;
        }
        arrays.types[slot] = ArraySlots.EMPTY;
        return 1;
    }

    public int putElement(int slot, int index, long value) {
        if (!isSlot(slot)) {
            return BAD_ARGUMENT;
        }
        if (arrays.isEmpty(slot)) {
            return EMPTY_SLOT;
        }
        if (!arrays.hasIndex(slot, index)) {
            return INDEX_OUT_OF_RANGE;
        }
        arrays.elements[slot][index] = ArraySlots.narrowed(value, arrays.types[slot]);
        return 1;
    }

    public long element(int slot, int index) {
        if (!isSlot(slot) || arrays.isEmpty(slot) || !arrays.hasIndex(slot, index)) {
            return NO_VALUE;
        }
        return arrays.elements[slot][index];
    }

    public int copyElements(int source, int sourceIndex, int target, int targetIndex, int count) {
        if (!isSlot(source) || !isSlot(target)) {
            return BAD_ARGUMENT;
        }
        if (arrays.isEmpty(source) || arrays.isEmpty(target)) {
            return EMPTY_SLOT;
        }
        if (arrays.types[source] != arrays.types[target]) {
            return WRONG_TYPE;
        }
        if (!arrays.hasRange(source, sourceIndex, count) || !arrays.hasRange(target, targetIndex, count)) {
            return INDEX_OUT_OF_RANGE;
        }
        System.arraycopy(arrays.elements[source], sourceIndex, arrays.elements[target], targetIndex, count);
        return count;
    }

    public int compareWithArray(int slot) {
        if (!isSlot(slot)) {
            return BAD_ARGUMENT;
        }
        if (arrays.isEmpty(slot)) {
            return EMPTY_SLOT;
        }
        if (arrays.types[slot] != ArraySlots.BYTE) {
            return WRONG_TYPE;
        }
        int size = arrays.sizes[slot];
        int index = 0;
        for (int i = 0; i < chain.size; i++) {
            for (int j = 0; j < chain.size; j++) {
                if (index >= size || arrays.elements[slot][index] != chain.weights[i * MAX_STATES + j]) {
                    return index;
                }
                index++;
            }
        }
        return index < size ? index : NONE;
    }

    private static boolean isSlot(int slot) {
        return isWithin(slot, 0, SLOTS - 1);
    }

    // ---- the snapshot

    public int snapshot() {
        saved.copyFrom(chain);
        hasSaved = true;
        return chain.size;
    }

    public int restore() {
        if (!hasSaved) {
            return NOTHING_TO_UNDO;
        }
        chain.copyFrom(saved);
        edits.forgetAll();
        return chain.size;
    }

    /**
     * A chain with its discount. The weight from i to j stands at i * MAX_STATES + j; the labels and weights of
     * states that the chain doesn't have are 0, so that whole rows can be copied and compared.
     */
    private static final class Chain {
        int size;
        int total;
        int discountTop;
        int discountBottom;
        final int[] labels;
        final int[] weights;

        Chain() {
            labels = new int[MAX_STATES];
            weights = new int[MAX_CELLS];
            discountTop = 1;
            discountBottom = 1;
            start(2, 1);
        }

        void start(int newSize, int newTotal) {
            size = newSize;
            total = newTotal;
            for (int state = 0; state < MAX_STATES; state++) {
                labels[state] = 0;
            }
            for (int cell = 0; cell < MAX_CELLS; cell++) {
                weights[cell] = 0;
            }
            for (int state = 0; state < newSize; state++) {
                weights[state * MAX_STATES + state] = newTotal;
            }
        }

        boolean has(int state) {
            return state >= 0 && state < size;
        }

        void copyFrom(Chain other) {
            size = other.size;
            total = other.total;
            discountTop = other.discountTop;
            discountBottom = other.discountBottom;
            System.arraycopy(other.labels, 0, labels, 0, MAX_STATES);
            System.arraycopy(other.weights, 0, weights, 0, MAX_CELLS);
        }

        void copySwapped(Chain other, int first, int second) {
            copyFrom(other);
            for (int i = 0; i < size; i++) {
                int oldRow = swapped(i, first, second);
                labels[i] = other.labels[oldRow];
                for (int j = 0; j < size; j++) {
                    int oldColumn = swapped(j, first, second);
                    weights[i * MAX_STATES + j] = other.weights[oldRow * MAX_STATES + oldColumn];
                }
            }
        }

        private static int swapped(int state, int first, int second) {
            if (state == first) {
                return second;
            }
            return state == second ? first : state;
        }

        boolean sameAs(Chain other) {
            if (size != other.size || total != other.total) {
                return false;
            }
            if (discountTop != other.discountTop || discountBottom != other.discountBottom) {
                return false;
            }
            for (int state = 0; state < MAX_STATES; state++) {
                if (labels[state] != other.labels[state]) {
                    return false;
                }
            }
            for (int cell = 0; cell < MAX_CELLS; cell++) {
                if (weights[cell] != other.weights[cell]) {
                    return false;
                }
            }
            return true;
        }

        int successorAt(int state, int drawn) {
            int rest = total > 0 ? drawn % total : 0;
            for (int u = 0; u < size; u++) {
                rest -= weights[state * MAX_STATES + u];
                if (rest < 0) {
                    return u;
                }
            }
            return state;
        }
    }

    /** The chains before the last edits, in a ring. */
    private static final class EditHistory {
        int count;
        private int next;
        private final Chain[] before;

        EditHistory() {
            before = new Chain[MAX_EDITS];
            for (int i = 0; i < MAX_EDITS; i++) {
                before[i] = new Chain();
            }
        }

        void remember(Chain chain) {
            before[next].copyFrom(chain);
            next = next == MAX_EDITS - 1 ? 0 : next + 1;
            count = Math.min(count + 1, MAX_EDITS);
        }

        void takeLast(Chain chain) {
            next = next == 0 ? MAX_EDITS - 1 : next - 1;
            count--;
            chain.copyFrom(before[next]);
        }

        void forgetAll() {
            count = 0;
        }
    }

    /**
     * Finds optimal couplings by shortest paths in the residual graph: an entry can always grow, and it can shrink
     * while it is above 0. A path goes from a row to a column over entries that grow, and back from a column to a
     * row over entries that shrink.
     */
    private static final class Transport {
        private static final long FAR = Long.MAX_VALUE;

        final int[] flow;
        private int size;
        private final long[] costs;
        private final int[] supply;
        private final int[] demand;
        private final long[] rowDistance;
        private final long[] columnDistance;
        private final int[] columnBefore;
        private final int[] rowBefore;

        Transport() {
            flow = new int[MAX_CELLS];
            costs = new long[MAX_CELLS];
            supply = new int[MAX_STATES];
            demand = new int[MAX_STATES];
            rowDistance = new long[MAX_STATES];
            columnDistance = new long[MAX_STATES];
            columnBefore = new int[MAX_STATES];
            rowBefore = new int[MAX_STATES];
        }

        void useCosts(long[] level) {
            System.arraycopy(level, 0, costs, 0, MAX_CELLS);
        }

        /** Makes an optimal coupling of two states, and answers its cost. */
        long solve(Chain chain, int first, int second) {
            startOnDiagonal(chain, first, second);
            for (int row = 0; row < size; row++) {
                sendFrom(row);
            }
            long cost = 0;
            for (int cell = 0; cell < MAX_CELLS; cell++) {
                cost += flow[cell] * costs[cell];
            }
            return cost;
        }

        /** The diagonal costs nothing, so what both states have there is placed without making a dearer coupling. */
        private void startOnDiagonal(Chain chain, int first, int second) {
            size = chain.size;
            for (int cell = 0; cell < MAX_CELLS; cell++) {
                flow[cell] = 0;
            }
            for (int state = 0; state < size; state++) {
                int given = chain.weights[first * MAX_STATES + state];
                int wanted = chain.weights[second * MAX_STATES + state];
                int common = Math.min(given, wanted);
                flow[state * MAX_STATES + state] = common;
                supply[state] = given - common;
                demand[state] = wanted - common;
            }
        }

        private void sendFrom(int row) {
            for (int round = 0; round < MAX_RESOLUTION && supply[row] > 0; round++) {
                int column = openColumn();
                if (column < 0) {
                    return;
                }
                findPaths(row, 0);
                int amount = slackOfPath(column, Math.min(supply[row], demand[column]));
                shiftAlongPath(column, amount);
                supply[row] -= amount;
                demand[column] -= amount;
            }
        }

        /** Any column will do: a shortest path to it keeps the coupling optimal for what has been sent. */
        private int openColumn() {
            for (int column = 0; column < size; column++) {
                if (demand[column] > 0) {
                    return column;
                }
            }
            return -1;
        }

        /**
         * Makes the entries as small as they can be, one after the other, at the same cost: an entry can give way
         * if a path over later entries replaces it without a loss.
         */
        void makeCanonical() {
            for (int row = 0; row < size; row++) {
                for (int column = 0; column < size; column++) {
                    reduceEntry(row, column);
                }
            }
        }

        private void reduceEntry(int row, int column) {
            int cell = row * MAX_STATES + column;
            for (int round = 0; round < MAX_RESOLUTION && flow[cell] > 0; round++) {
                findPaths(row, cell + 1);
                if (columnDistance[column] > costs[cell]) {
                    return;
                }
                int amount = slackOfPath(column, flow[cell]);
                shiftAlongPath(column, amount);
                flow[cell] -= amount;
            }
        }

        /**
         * Finds the shortest paths from a row over the entries from a cell on. An optimal coupling has no cycle of
         * negative length, so a shortest path meets no row twice and is found in as many rounds as there are rows.
         */
        private void findPaths(int startRow, int firstCell) {
            for (int state = 0; state < size; state++) {
                rowDistance[state] = FAR;
                columnDistance[state] = FAR;
                columnBefore[state] = -1;
                rowBefore[state] = -1;
            }
            rowDistance[startRow] = 0;
            boolean nearer = true;
            for (int round = 0; round < size && nearer; round++) {
                nearer = approachColumns(firstCell) && approachRows(firstCell);
            }
        }

        private boolean approachColumns(int firstCell) {
            boolean nearer = false;
            for (int row = 0; row < size; row++) {
                if (rowDistance[row] == FAR) {
                    continue;
                }
                for (int column = 0; column < size; column++) {
                    int cell = row * MAX_STATES + column;
                    long distance = rowDistance[row] + costs[cell];
                    if (cell >= firstCell && distance < columnDistance[column]) {
                        columnDistance[column] = distance;
                        rowBefore[column] = row;
                        nearer = true;
                    }
                }
            }
            return nearer;
        }

        private boolean approachRows(int firstCell) {
            boolean nearer = false;
            for (int column = 0; column < size; column++) {
                if (columnDistance[column] == FAR) {
                    continue;
                }
                for (int row = 0; row < size; row++) {
                    int cell = row * MAX_STATES + column;
                    long distance = columnDistance[column] - costs[cell];
                    if (cell >= firstCell && flow[cell] > 0 && distance < rowDistance[row]) {
                        rowDistance[row] = distance;
                        columnBefore[row] = column;
                        nearer = true;
                    }
                }
            }
            return nearer;
        }

        /** The amount, up to a limit, by which all the entries that shrink on the path to a column can shrink. */
        private int slackOfPath(int column, int limit) {
            int slack = limit;
            int row = rowBefore[column];
            for (int hop = 0; hop < size && row >= 0 && columnBefore[row] >= 0; hop++) {
                int back = columnBefore[row];
                slack = Math.min(slack, flow[row * MAX_STATES + back]);
                row = rowBefore[back];
            }
            return slack;
        }

        private void shiftAlongPath(int lastColumn, int amount) {
            int column = lastColumn;
            for (int hop = 0; hop < size && column >= 0; hop++) {
                int row = rowBefore[column];
                if (row < 0) {
                    return;
                }
                flow[row * MAX_STATES + column] += amount;
                column = columnBefore[row];
                if (column >= 0) {
                    flow[row * MAX_STATES + column] -= amount;
                }
            }
        }
    }

    /**
     * The distances of a chain, depth by depth, as integers over a common denominator, the scale of the depth.
     * They are kept until a chain that differs from their basis asks, so no edit has to tell of itself here.
     */
    private static final class Distances {
        private final Chain basis;
        private final Transport transport;
        private final long[][] levels;
        private final long[] scales;
        private int knownDepth;

        Distances() {
            basis = new Chain();
            transport = new Transport();
            levels = new long[MAX_DEPTH + 1][MAX_CELLS];
            scales = new long[MAX_DEPTH + 1];
            scales[0] = 1;
        }

        /** The distances of a supported depth, 0 to MAX_DEPTH; that of i and j stands at i * MAX_STATES + j. */
        long[] levelFor(Chain chain, int depth) {
            if (!basis.sameAs(chain)) {
                basis.copyFrom(chain);
                knownDepth = 0;
            }
            for (int next = knownDepth + 1; next <= depth; next++) {
                fillLevel(next);
                knownDepth = next;
            }
            return levels[depth];
        }

        private void fillLevel(int depth) {
            scales[depth] = scales[depth - 1] * basis.discountBottom * basis.total;
            transport.useCosts(levels[depth - 1]);
            for (int first = 0; first < basis.size; first++) {
                for (int second = first + 1; second < basis.size; second++) {
                    long distance = scales[depth];
                    if (basis.labels[first] == basis.labels[second]) {
                        distance = basis.discountTop * transport.solve(basis, first, second);
                    }
                    levels[depth][first * MAX_STATES + second] = distance;
                    levels[depth][second * MAX_STATES + first] = distance;
                }
            }
        }

        /** The canonical optimal coupling of two states of the basis for the distances of a level. */
        int[] canonicalCoupling(long[] level, int first, int second) {
            transport.useCosts(level);
            transport.solve(basis, first, second);
            transport.makeCanonical();
            return transport.flow;
        }

        long inLowestTerms(long distance, int depth, boolean wantsNumerator) {
            long divisor = greatestCommonDivisor(distance, scales[depth]);
            long part = wantsNumerator ? distance : scales[depth];
            return divisor > 1 ? part / divisor : part;
        }

        private static long greatestCommonDivisor(long first, long second) {
            long larger = first;
            long smaller = second;
            // Numbers up to MAX_SCALE need at most some 75 divisions.
            for (int round = 0; round < 100 && smaller != 0; round++) {
                long rest = larger % smaller;
                larger = smaller;
                smaller = rest;
            }
            return larger;
        }
    }

    /** The coarsest bisimulation, found by splitting classes until their states agree. */
    private static final class Partition {
        int classCount;
        final int[] classOf;
        private final int[] nextClassOf;

        Partition() {
            classOf = new int[MAX_STATES];
            nextClassOf = new int[MAX_STATES];
        }

        void refineFully(Chain chain) {
            for (int state = 0; state < MAX_STATES; state++) {
                classOf[state] = 0;
            }
            classCount = 1;
            // A round that splits nothing is the last one that matters, and each one before it adds a class.
            for (int round = 0; round < chain.size; round++) {
                refineOnce(chain);
            }
        }

        private void refineOnce(Chain chain) {
            int found = 0;
            for (int state = 0; state < chain.size; state++) {
                int like = 0;
                while (like < state && !agree(chain, like, state)) {
                    like++;
                }
                if (like < state) {
                    nextClassOf[state] = nextClassOf[like];
                } else {
                    nextClassOf[state] = found;
                    found++;
                }
            }
            System.arraycopy(nextClassOf, 0, classOf, 0, MAX_STATES);
            classCount = found;
        }

        private boolean agree(Chain chain, int first, int second) {
            if (classOf[first] != classOf[second] || chain.labels[first] != chain.labels[second]) {
                return false;
            }
            for (int target = 0; target < classCount; target++) {
                if (weightToClass(chain, first, target) != weightToClass(chain, second, target)) {
                    return false;
                }
            }
            return true;
        }

        private int weightToClass(Chain chain, int state, int target) {
            int sum = 0;
            for (int successor = 0; successor < chain.size; successor++) {
                if (classOf[successor] == target) {
                    sum += chain.weights[state * MAX_STATES + successor];
                }
            }
            return sum;
        }

        void writeQuotient(Chain chain, Chain quotient) {
            quotient.copyFrom(chain);
            quotient.start(classCount, chain.total);
            for (int state = 0; state < chain.size; state++) {
                int own = classOf[state];
                quotient.labels[own] = chain.labels[state];
                for (int target = 0; target < classCount; target++) {
                    quotient.weights[own * MAX_STATES + target] = weightToClass(chain, state, target);
                }
            }
        }
    }

    /** Sums of the products of weights along paths; none is above MAX_RESOLUTION to the power of 12. */
    private static final class PathCounter {
        private final long[] sums;
        private final long[] nextSums;

        PathCounter() {
            sums = new long[MAX_STATES];
            nextSums = new long[MAX_STATES];
        }

        long countReaching(Chain chain, int start, int labelSet, int steps) {
            markTargets(chain, labelSet);
            for (int step = 0; step < steps; step++) {
                stepBack(chain);
                System.arraycopy(nextSums, 0, sums, 0, MAX_STATES);
            }
            return sums[start];
        }

        long countFirstReaching(Chain chain, int start, int labelSet, int limit) {
            markTargets(chain, labelSet);
            long power = 1;
            for (int step = 0; step < limit; step++) {
                stepBack(chain);
                power *= chain.total;
                for (int state = 0; state < chain.size; state++) {
                    sums[state] = isTarget(chain, state, labelSet) ? power : nextSums[state];
                }
            }
            return sums[start];
        }

        /** From the last label of the sequence back to the first one. */
        long countSequence(Chain chain, int start, InputBuffer sequence) {
            int last = sequence.length - 1;
            markTargets(chain, 1 << sequence.digitAt(last));
            for (int place = last - 1; place >= 0; place--) {
                stepBack(chain);
                int labelSet = 1 << sequence.digitAt(place);
                for (int state = 0; state < chain.size; state++) {
                    sums[state] = isTarget(chain, state, labelSet) ? nextSums[state] : 0;
                }
            }
            return sums[start];
        }

        private void markTargets(Chain chain, int labelSet) {
            for (int state = 0; state < chain.size; state++) {
                sums[state] = isTarget(chain, state, labelSet) ? 1 : 0;
            }
        }

        private static boolean isTarget(Chain chain, int state, int labelSet) {
            return ((labelSet >>> chain.labels[state]) & 1) == 1;
        }

        private void stepBack(Chain chain) {
            for (int state = 0; state < chain.size; state++) {
                long sum = 0;
                for (int successor = 0; successor < chain.size; successor++) {
                    sum += chain.weights[state * MAX_STATES + successor] * sums[successor];
                }
                nextSums[state] = sum;
            }
        }
    }

    private static final class InputBuffer {
        private static final int MAX_SEQUENCE = 13;

        int length;
        private final int[] signs;

        InputBuffer() {
            signs = new int[MAX_INPUT];
        }

        void add(int sign) {
            if (length < MAX_INPUT) {
                signs[length] = sign;
                length++;
            }
        }

        void empty() {
            length = 0;
        }

        boolean holdsAt(int position, char sign) {
            return position >= 0 && position < length && signs[position] == sign;
        }

        /** The digit at a position, or -1 if there is none. */
        int digitAt(int position) {
            if (position < 0 || position >= length || signs[position] < '0' || signs[position] > '9') {
                return -1;
            }
            return signs[position] - '0';
        }

        boolean isLabelSequence() {
            if (length < 1 || length > MAX_SEQUENCE) {
                return false;
            }
            for (int position = 0; position < length; position++) {
                int digit = digitAt(position);
                if (digit < 0 || digit > MAX_LABEL) {
                    return false;
                }
            }
            return true;
        }
    }

    /**
     * Reads the text of a chain. After the first byte that doesn't fit, nothing more is taken, so that the
     * position stays there.
     */
    private static final class ChainReader {
        private static final int SUCCESSORS = 10;

        final InputBuffer text;
        private int position;
        private boolean malformed;
        private int size;
        private int total;
        private int highestSuccessor;
        private final int[] labels;
        private final int[] weights;

        ChainReader() {
            text = new InputBuffer();
            labels = new int[MAX_STATES];
            weights = new int[MAX_STATES * SUCCESSORS];
        }

        /** Answers the number of states, or the error code. */
        int readInput() {
            clear();
            total = takeNumber(2);
            take(':');
            readStates();
            if (malformed || position < text.length) {
                return MALFORMED_AT_START - position;
            }
            return isConsistent() ? size : INCONSISTENT;
        }

        private void clear() {
            position = 0;
            malformed = false;
            highestSuccessor = 0;
            for (int i = 0; i < MAX_STATES * SUCCESSORS; i++) {
                weights[i] = 0;
            }
        }

        private void readStates() {
            size = 0;
            boolean more = true;
            while (more && size < MAX_STATES) {
                readState(size);
                size++;
                more = size < MAX_STATES && takeIfPresent(';');
            }
        }

        private void readState(int state) {
            labels[state] = takeNumber(1);
            take(',');
            readEdge(state);
            for (int edge = 1; edge < MAX_INPUT && takeIfPresent(','); edge++) {
                readEdge(state);
            }
        }

        private void readEdge(int state) {
            int weight = takeNumber(2);
            take('>');
            int successor = takeNumber(1);
            if (!malformed) {
                weights[state * SUCCESSORS + successor] += weight;
                highestSuccessor = Math.max(highestSuccessor, successor);
            }
        }

        private int takeNumber(int mostDigits) {
            if (text.digitAt(position) < 0) {
                malformed = true;
            }
            int number = 0;
            for (int digits = 0; !malformed && digits < mostDigits && text.digitAt(position) >= 0; digits++) {
                number = 10 * number + text.digitAt(position);
                position++;
            }
            return number;
        }

        private void take(char sign) {
            if (!takeIfPresent(sign)) {
                malformed = true;
            }
        }

        private boolean takeIfPresent(char sign) {
            if (malformed || !text.holdsAt(position, sign)) {
                return false;
            }
            position++;
            return true;
        }

        private boolean isConsistent() {
            if (total < 1 || total > MAX_RESOLUTION || highestSuccessor >= size) {
                return false;
            }
            for (int state = 0; state < size; state++) {
                int sum = 0;
                for (int successor = 0; successor < size; successor++) {
                    sum += weights[state * SUCCESSORS + successor];
                }
                if (sum != total || labels[state] > MAX_LABEL) {
                    return false;
                }
            }
            return true;
        }

        void writeTo(Chain chain) {
            chain.start(size, total);
            for (int state = 0; state < size; state++) {
                chain.labels[state] = labels[state];
                for (int successor = 0; successor < size; successor++) {
                    chain.weights[state * MAX_STATES + successor] = weights[state * SUCCESSORS + successor];
                }
            }
        }
    }

    /** The slots' arrays, all held as longs that have been narrowed to the element type. */
    private static final class ArraySlots {
        static final int EMPTY = -1;
        static final int BYTE = 0;
        static final int CHAR = 1;
        static final int INT = 2;
        static final int LONG = 3;

        final int[] types;
        final int[] sizes;
        final long[][] elements;

        ArraySlots() {
            types = new int[SLOTS];
            sizes = new int[SLOTS];
            elements = new long[SLOTS][MAX_ARRAY_SIZE];
            for (int slot = 0; slot < SLOTS; slot++) {
                types[slot] = EMPTY;
            }
        }

        boolean isEmpty(int slot) {
            return types[slot] == EMPTY;
        }

        boolean hasIndex(int slot, int index) {
            return index >= 0 && index < sizes[slot];
        }

        boolean hasRange(int slot, int start, int count) {
            return start >= 0 && count >= 0 && start <= sizes[slot] - count;
        }

        void fillNew(int slot, int type, int size) {
            types[slot] = type;
            sizes[slot] = size;
            for (int index = 0; index < MAX_ARRAY_SIZE; index++) {
                elements[slot][index] = 0;
            }
        }

        static long narrowed(long value, int type) {
            switch (type) {
                case BYTE:
                    return (byte) value;
                case CHAR:
                    return (char) value;
                case INT:
                    return (int) value;
                default:
                    return value;
            }
        }
    }
}
