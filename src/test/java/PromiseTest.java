/** Each promise of the document by hand: ordinary inputs, the edges that it names, and wrong inputs. */
public final class PromiseTest {
    private static final int BAD = -1;
    private static final int NO_STATE = -2;
    private static final long NO_VALUE = Long.MIN_VALUE;
    private static final int LOW = Integer.MIN_VALUE;
    private static final int HIGH = Integer.MAX_VALUE;

    private static int wrong = 0;
    private static int promise = 0;

    private static void due(String call, long got, long want) {
        if (got != want) {
            wrong++;
            System.out.println("promise " + promise + ": " + call + " answered " + got + ", due is " + want);
        }
    }

    private static MarkovChainDistances fresh() {
        return new MarkovChainDistances();
    }

    private static void type(MarkovChainDistances x, String text) {
        for (int i = 0; i < text.length(); i++) {
            x.append(text.charAt(i), 1);
        }
    }

    private static MarkovChainDistances read(String text) {
        MarkovChainDistances x = fresh();
        type(x, text);
        if (x.parse() < 1) {
            wrong++;
            System.out.println("the text " + text + " was refused");
        }
        return x;
    }

    private static int parsed(String text) {
        MarkovChainDistances x = fresh();
        type(x, text);
        return x.parse();
    }

    private static long sequence(MarkovChainDistances x, int state, String digits) {
        type(x, digits);
        return x.sequenceWeight(state);
    }

    private static void weights(MarkovChainDistances x, int... want) {
        int n = x.states();
        due("the number of weights", n * n, want.length);
        for (int i = 0; i < n * n && i < want.length; i++) {
            due("weight(" + i / n + ", " + i % n + ")", x.weight(i / n, i % n), want[i]);
        }
    }

    private static void labels(MarkovChainDistances x, int... want) {
        due("the number of labels", x.states(), want.length);
        for (int i = 0; i < want.length; i++) {
            due("label(" + i + ")", x.label(i), want[i]);
        }
    }

    private static void distance(MarkovChainDistances x, int depth, int first, int second, long top, long bottom) {
        String what = "(" + depth + ", " + first + ", " + second + ")";
        due("distanceNumerator" + what, x.distanceNumerator(depth, first, second), top);
        due("distanceDenominator" + what, x.distanceDenominator(depth, first, second), bottom);
    }

    private static void coupling(MarkovChainDistances x, int depth, int pair, int... want) {
        int n = x.states();
        for (int i = 0; i < want.length; i++) {
            due("coupling(" + depth + ", " + pair + ", " + i / n + ", " + i % n + ")",
                    x.coupling(depth, pair, i / n, i % n), want[i]);
        }
    }

    public static void main(String[] args) {
        constants();
        examples();
        newObject();
        resets();
        setLabels();
        moveWeights();
        weightQueries();
        discounts();
        swaps();
        undoing();
        undoAndForgetting();
        maximumDepths();
        distances();
        comparing();
        farthest();
        couplings();
        distributionDistances();
        bisimulation();
        minimizing();
        reaching();
        firstReaching();
        sequences();
        sampling();
        appending();
        parsing();
        parsingErrors();
        allocating();
        elements();
        copying();
        comparingArrays();
        snapshots();
        System.out.println(wrong == 0 ? "all answers are as due" : wrong + " answers are not as due");
        if (wrong != 0) {
            System.exit(1);
        }
    }

    private static void constants() {
        due("BAD_ARGUMENT", MarkovChainDistances.BAD_ARGUMENT, -1);
        due("NO_SUCH_STATE", MarkovChainDistances.NO_SUCH_STATE, -2);
        due("INSUFFICIENT_WEIGHT", MarkovChainDistances.INSUFFICIENT_WEIGHT, -3);
        due("DEPTH_UNSUPPORTED", MarkovChainDistances.DEPTH_UNSUPPORTED, -4);
        due("NOTHING_TO_UNDO", MarkovChainDistances.NOTHING_TO_UNDO, -5);
        due("BUFFER_FULL", MarkovChainDistances.BUFFER_FULL, -6);
        due("NONE", MarkovChainDistances.NONE, -7);
        due("INCONSISTENT", MarkovChainDistances.INCONSISTENT, -8);
        due("EMPTY_SLOT", MarkovChainDistances.EMPTY_SLOT, -11);
        due("WRONG_TYPE", MarkovChainDistances.WRONG_TYPE, -12);
        due("INDEX_OUT_OF_RANGE", MarkovChainDistances.INDEX_OUT_OF_RANGE, -13);
        due("NEGATIVE_SIZE", MarkovChainDistances.NEGATIVE_SIZE, -14);
        due("NO_VALUE", MarkovChainDistances.NO_VALUE, Long.MIN_VALUE);
    }

    private static void examples() {
        MarkovChainDistances x = fresh();
        due("example 1: reset(3, 4)", x.reset(3, 4), 2);
        due("example 1: moveWeight(0, 0, 1, 3)", x.moveWeight(0, 0, 1, 3), 3);
        due("example 1: setLabel(1, 1)", x.setLabel(1, 1), 0);
        due("example 1: distanceNumerator(2, 0, 2)", x.distanceNumerator(2, 0, 2), 3);
        due("example 1: distanceDenominator(2, 0, 2)", x.distanceDenominator(2, 0, 2), 4);
        due("example 1: coupling(1, 2, 1, 2)", x.coupling(1, 2, 1, 2), 3);
        due("example 1: bisimulationClassCount()", x.bisimulationClassCount(), 3);
        due("example 1: moveWeight(0, 0, 1, 2)", x.moveWeight(0, 0, 1, 2), -3);

        x = fresh();
        due("example 2: setLabel(1, 1)", x.setLabel(1, 1), 0);
        due("example 2: farthestPair(3)", x.farthestPair(3), 1);
        due("example 2: distanceNumerator(3, 0, 1)", x.distanceNumerator(3, 0, 1), 1);
        due("example 2: undo()", x.undo(), 0);
        due("example 2: bisimulationClassCount()", x.bisimulationClassCount(), 1);
        due("example 2: minimize()", x.minimize(), 1);
        due("example 2: farthestPair(3)", x.farthestPair(3), -7);

        x = fresh();
        due("example 3: append(842670124, 4)", x.append(842670124, 4), 4);
        due("example 3: append(842939451, 4)", x.append(842939451, 4), 8);
        due("example 3: parse()", x.parse(), -1002);
        due("example 3: append(842670124, 4)", x.append(842670124, 4), 4);
        due("example 3: append(842939392, 3)", x.append(842939392, 3), 7);
        due("example 3: parse()", x.parse(), -1002);
    }

    private static void newObject() {
        promise = 1;
        MarkovChainDistances x = fresh();
        due("states()", x.states(), 2);
        due("resolution()", x.resolution(), 1);
        labels(x, 0, 0);
        weights(x, 1, 0, 0, 1);
        due("setDiscount(1, 1)", x.setDiscount(1, 1), 0);
        due("editCount()", x.editCount(), 0);
        due("undo()", x.undo(), -5);
        due("restore()", x.restore(), -5);
        due("clearInput()", x.clearInput(), 0);
        for (int slot = 0; slot < 4; slot++) {
            due("release(" + slot + ")", x.release(slot), 0);
        }
    }

    private static void resets() {
        promise = 2;
        MarkovChainDistances x = fresh();
        x.setDiscount(1, 3);
        x.setLabel(1, 2);
        due("reset(3, 5)", x.reset(3, 5), 2);
        labels(x, 0, 0, 0);
        weights(x, 5, 0, 0, 0, 5, 0, 0, 0, 5);
        due("the discount stays: setDiscount(1, 3)", x.setDiscount(1, 3), 0);
        due("editCount()", x.editCount(), 0);
        x.setLabel(2, 3);
        int[][] bad = {{0, 1}, {7, 1}, {-1, 1}, {1, 0}, {1, 13}, {1, -1}, {LOW, 1}, {1, HIGH}};
        for (int[] b : bad) {
            due("reset(" + b[0] + ", " + b[1] + ")", x.reset(b[0], b[1]), BAD);
        }
        labels(x, 0, 0, 3);
        due("a failed reset forgets no edit: editCount()", x.editCount(), 1);
        due("reset(6, 12)", x.reset(6, 12), 3);
        due("weight(5, 5)", x.weight(5, 5), 12);
        due("reset(1, 1)", x.reset(1, 1), 6);
        promise = 3;
        due("states()", x.states(), 1);
        x.reset(6, 12);
        due("states()", x.states(), 6);
        promise = 4;
        due("resolution()", x.resolution(), 12);
        x.reset(6, 7);
        due("resolution()", x.resolution(), 7);
    }

    private static void setLabels() {
        MarkovChainDistances x = fresh();
        promise = 5;
        due("setLabel(0, 3)", x.setLabel(0, 3), 0);
        due("setLabel(0, 3)", x.setLabel(0, 3), 3);
        due("the same label is no edit: editCount()", x.editCount(), 1);
        due("setLabel(0, 0)", x.setLabel(0, 0), 3);
        due("editCount()", x.editCount(), 2);
        due("setLabel(2, 9)", x.setLabel(2, 9), NO_STATE);
        due("setLabel(-1, 0)", x.setLabel(-1, 0), NO_STATE);
        due("setLabel(0, 4)", x.setLabel(0, 4), BAD);
        due("setLabel(0, -1)", x.setLabel(0, -1), BAD);
        due("editCount()", x.editCount(), 2);
        promise = 6;
        x.setLabel(1, 2);
        labels(x, 0, 2);
        due("label(2)", x.label(2), NO_STATE);
        due("label(-1)", x.label(-1), NO_STATE);
        due("label(MIN)", x.label(LOW), NO_STATE);
        due("label(MAX)", x.label(HIGH), NO_STATE);
    }

    private static void moveWeights() {
        promise = 7;
        MarkovChainDistances x = fresh();
        x.reset(3, 12);
        due("moveWeight(1, 1, 2, 5)", x.moveWeight(1, 1, 2, 5), 5);
        due("moveWeight(1, 1, 0, 7)", x.moveWeight(1, 1, 0, 7), 7);
        weights(x, 12, 0, 0, 7, 0, 5, 0, 0, 12);
        due("moveWeight(1, 1, 2, 1)", x.moveWeight(1, 1, 2, 1), -3);
        due("moveWeight(1, 2, 2, 6)", x.moveWeight(1, 2, 2, 6), -3);
        due("moveWeight(1, 2, 2, 5)", x.moveWeight(1, 2, 2, 5), 5);
        due("moveWeight(1, 2, 0, 0)", x.moveWeight(1, 2, 0, 0), 7);
        due("editCount()", x.editCount(), 2);
        due("moveWeight(2, 2, 1, 1)", x.moveWeight(2, 2, 1, 1), 1);
        due("undo()", x.undo(), 2);
        due("moveWeight(0, 0, 1, 12)", x.moveWeight(0, 0, 1, 12), 12);
        due("moveWeight(0, 1, 0, 13)", x.moveWeight(0, 1, 0, 13), BAD);
        due("moveWeight(0, 1, 0, -1)", x.moveWeight(0, 1, 0, -1), BAD);
        due("moveWeight(3, 1, 0, -1)", x.moveWeight(3, 1, 0, -1), NO_STATE);
        due("moveWeight(0, 3, 0, -1)", x.moveWeight(0, 3, 0, -1), NO_STATE);
        due("moveWeight(0, 0, 3, -1)", x.moveWeight(0, 0, 3, -1), NO_STATE);
        due("moveWeight(-1, 0, 0, 0)", x.moveWeight(-1, 0, 0, 0), NO_STATE);
        due("moveWeight(0, -1, 0, 0)", x.moveWeight(0, -1, 0, 0), NO_STATE);
        due("moveWeight(0, 0, -1, 0)", x.moveWeight(0, 0, -1, 0), NO_STATE);
        weights(x, 0, 12, 0, 7, 0, 5, 0, 0, 12);
        due("editCount()", x.editCount(), 3);
    }

    private static void weightQueries() {
        promise = 8;
        MarkovChainDistances x = read("3:0,1>1,2>0;1,3>0");
        weights(x, 2, 1, 3, 0);
        due("weight(2, 0)", x.weight(2, 0), NO_STATE);
        due("weight(0, 2)", x.weight(0, 2), NO_STATE);
        due("weight(-1, 0)", x.weight(-1, 0), NO_STATE);
        due("weight(0, -1)", x.weight(0, -1), NO_STATE);
        due("weight(MIN, MAX)", x.weight(LOW, HIGH), NO_STATE);
    }

    private static void discounts() {
        promise = 9;
        MarkovChainDistances x = fresh();
        due("setDiscount(1, 2)", x.setDiscount(1, 2), 1);
        due("setDiscount(1, 2)", x.setDiscount(1, 2), 0);
        due("setDiscount(2, 4)", x.setDiscount(2, 4), 1);
        due("setDiscount(0, 4)", x.setDiscount(0, 4), 1);
        due("setDiscount(4, 4)", x.setDiscount(4, 4), 1);
        due("editCount()", x.editCount(), 4);
        int[][] bad = {{-1, 1}, {2, 1}, {0, 0}, {5, 4}, {1, 5}, {0, -1}, {-2, -1}, {LOW, HIGH}};
        for (int[] b : bad) {
            due("setDiscount(" + b[0] + ", " + b[1] + ")", x.setDiscount(b[0], b[1]), BAD);
        }
        due("setDiscount(4, 4)", x.setDiscount(4, 4), 0);
        due("editCount()", x.editCount(), 4);
    }

    private static void swaps() {
        promise = 10;
        MarkovChainDistances x = read("4:1,1>0,3>1;2,4>2;3,2>0,2>1");
        due("swapStates(0, 2)", x.swapStates(0, 2), 1);
        labels(x, 3, 2, 1);
        weights(x, 0, 2, 2, 4, 0, 0, 0, 3, 1);
        due("swapStates(1, 1)", x.swapStates(1, 1), 0);
        due("editCount()", x.editCount(), 1);
        due("swapStates(2, 0)", x.swapStates(2, 0), 1);
        labels(x, 1, 2, 3);
        weights(x, 1, 3, 0, 0, 0, 4, 2, 2, 0);
        due("swapStates(3, 0)", x.swapStates(3, 0), NO_STATE);
        due("swapStates(0, -1)", x.swapStates(0, -1), NO_STATE);
        x = fresh();
        due("alike states: swapStates(0, 1)", x.swapStates(0, 1), 0);
        due("editCount()", x.editCount(), 0);
        x.setLabel(0, 1);
        due("only labels: swapStates(0, 1)", x.swapStates(0, 1), 1);
        labels(x, 0, 1);
        x = read("2:0,2>1;0,2>0");
        due("a cycle: swapStates(0, 1)", x.swapStates(0, 1), 0);
    }

    private static void undoing() {
        promise = 11;
        MarkovChainDistances x = fresh();
        due("undo()", x.undo(), -5);
        x.reset(2, 3);
        x.setLabel(1, 2);
        x.moveWeight(0, 0, 1, 2);
        x.setDiscount(3, 4);
        x.swapStates(0, 1);
        labels(x, 2, 0);
        due("undo()", x.undo(), 3);
        labels(x, 0, 2);
        weights(x, 1, 2, 0, 3);
        due("undo()", x.undo(), 2);
        due("maximumDepth()", x.maximumDepth(), 31);
        due("undo()", x.undo(), 1);
        weights(x, 3, 0, 0, 3);
        due("undo()", x.undo(), 0);
        labels(x, 0, 0);
        due("undo()", x.undo(), -5);
        due("the discount is back: setDiscount(1, 1)", x.setDiscount(1, 1), 0);
    }

    private static void undoAndForgetting() {
        promise = 12;
        MarkovChainDistances x = fresh();
        for (int i = 1; i <= 13; i++) {
            x.setLabel(0, i % 4);
            due("editCount() after " + i + " edits", x.editCount(), Math.min(i, 10));
        }
        for (int i = 12; i >= 3; i--) {
            due("undo()", x.undo(), i - 3);
            due("label(0)", x.label(0), i % 4);
        }
        due("forgotten edits don't come back: undo()", x.undo(), -5);
        due("label(0)", x.label(0), 3);
        for (int i = 0; i < 12; i++) {
            x.setLabel(0, i % 4);
        }
        x.undo();
        x.undo();
        due("editCount()", x.editCount(), 8);
        x.setLabel(1, 3);
        due("editCount()", x.editCount(), 9);
        x.minimize();
        due("minimize forgets: editCount()", x.editCount(), 0);
        x.reset(2, 1);
        x.setLabel(0, 1);
        x.minimize();
        due("minimize forgets also if nothing changes: editCount()", x.editCount(), 0);
        x.setLabel(0, 2);
        type(x, "1:0,1>0");
        x.parse();
        due("parse forgets: editCount()", x.editCount(), 0);
        x.setLabel(0, 1);
        type(x, "1:0,1>1");
        x.parse();
        due("a failed parse forgets nothing: editCount()", x.editCount(), 1);
        due("a failed restore forgets nothing: restore()", x.restore(), -5);
        due("editCount()", x.editCount(), 1);
        x.snapshot();
        due("a snapshot forgets nothing: editCount()", x.editCount(), 1);
        x.restore();
        due("restore forgets: editCount()", x.editCount(), 0);
        x.setLabel(0, 2);
        x.reset(1, 1);
        due("reset forgets: editCount()", x.editCount(), 0);
    }

    private static void maximumDepths() {
        promise = 13;
        MarkovChainDistances x = fresh();
        due("1: maximumDepth()", x.maximumDepth(), 99);
        x.setDiscount(1, 2);
        due("2: maximumDepth()", x.maximumDepth(), 49);
        x.setDiscount(0, 4);
        due("4: maximumDepth()", x.maximumDepth(), 24);
        x.reset(2, 12);
        due("48: maximumDepth()", x.maximumDepth(), 8);
        x.setDiscount(1, 1);
        x.reset(2, 10);
        due("10, exactly at the limit: maximumDepth()", x.maximumDepth(), 15);
        x.reset(2, 11);
        due("11: maximumDepth()", x.maximumDepth(), 14);
    }

    private static void distances() {
        promise = 14;
        MarkovChainDistances x = read("4:0,3>1,1>2;1,4>1;0,2>0,2>1");
        distance(x, 0, 0, 1, 0, 1);
        distance(x, 1, 0, 1, 1, 1);
        distance(x, 1, 0, 2, 0, 1);
        distance(x, 2, 0, 2, 1, 4);
        distance(x, 5, 0, 2, 85, 256);
        distance(x, 5, 2, 0, 85, 256);
        distance(x, 15, 2, 2, 0, 1);
        x.setDiscount(1, 2);
        distance(x, 3, 0, 2, 9, 64);
        x.undo();
        distance(x, 5, 0, 2, 85, 256);
        x.setDiscount(0, 3);
        distance(x, 5, 0, 2, 0, 1);
        distance(x, 5, 0, 1, 1, 1);

        x = read("12:0,1>1,11>0;1,12>1;0,12>2");
        x.setDiscount(3, 4);
        // the distance of depth k + 1 is (1 + 11 d) / 16, so that of depth k is (1 - (11/16)^(k - 1)) / 5
        distance(x, 2, 0, 2, 1, 16);
        distance(x, 3, 0, 2, 27, 256);
        distance(x, 8, 0, 2, 49789657, 268435456);
        int[][] bad = {{-1, 0, 0}, {16, 0, 0}, {9, 0, 0}, {0, 3, 0}, {0, 0, 3}, {0, -1, 0}, {0, 0, -1}, {LOW, LOW, HIGH}};
        for (int[] b : bad) {
            distance(x, b[0], b[1], b[2], NO_VALUE, NO_VALUE);
        }
        promise = 15;
        x.setDiscount(1, 1);
        // 1 - (11/12)^12
        distance(x, 13, 0, 2, 5777672071535L, 8916100448256L);
        distance(x, 14, 0, 2, NO_VALUE, NO_VALUE);
    }

    private static void comparing() {
        promise = 16;
        MarkovChainDistances x = read("4:0,3>1,1>2;1,4>1;0,2>0,2>1");
        due("compareDistances(3, 2, 1)", x.compareDistances(3, 2, 1), 0);
        due("compareDistances(3, 12, 21)", x.compareDistances(3, 12, 21), 1);
        due("compareDistances(3, 1, 20)", x.compareDistances(3, 1, 20), 2);
        due("compareDistances(3, 0, 22)", x.compareDistances(3, 0, 22), 1);
        due("compareDistances(0, 1, 2)", x.compareDistances(0, 1, 2), 1);
        x.setDiscount(1, 4);
        due("compareDistances(13, 1, 2)", x.compareDistances(13, 1, 2), -4);
        due("compareDistances(12, 1, 2)", x.compareDistances(12, 1, 2), 2);
        due("compareDistances(16, -1, 2)", x.compareDistances(16, -1, 2), BAD);
        due("compareDistances(-1, 1, 2)", x.compareDistances(-1, 1, 2), BAD);
        int[] bad = {-1, 3, 13, 30, 9, 100, -10, LOW, HIGH};
        for (int pair : bad) {
            due("compareDistances(15, " + pair + ", 0)", x.compareDistances(15, pair, 0), NO_STATE);
            due("compareDistances(15, 0, " + pair + ")", x.compareDistances(15, 0, pair), NO_STATE);
        }
    }

    private static void farthest() {
        promise = 17;
        MarkovChainDistances x = read("4:0,4>0;0,1>0,3>2;1,4>2;0,4>3");
        due("all alike: farthestPair(0)", x.farthestPair(0), 1);
        due("the first of several: farthestPair(1)", x.farthestPair(1), 2);
        x.setLabel(2, 0);
        due("farthestPair(9)", x.farthestPair(9), 1);
        x = read("4:0,4>0;0,4>1;0,2>3,2>0;1,4>3");
        x.setDiscount(1, 4);
        due("farthestPair(2)", x.farthestPair(2), 3);
        x.swapStates(0, 3);
        x.setLabel(0, 0);
        x.setLabel(1, 2);
        due("farthestPair(4)", x.farthestPair(4), 1);
        due("farthestPair(12)", x.farthestPair(12), 1);
        due("farthestPair(13)", x.farthestPair(13), -4);
        due("farthestPair(16)", x.farthestPair(16), BAD);
        due("farthestPair(-1)", x.farthestPair(-1), BAD);
        x.reset(1, 4);
        due("farthestPair(12)", x.farthestPair(12), -7);
        due("farthestPair(13)", x.farthestPair(13), -4);
        due("farthestPair(16)", x.farthestPair(16), BAD);
    }

    private static void couplings() {
        promise = 18;
        MarkovChainDistances x = read("4:0,3>1,1>2;1,4>1;0,2>0,2>1");
        coupling(x, 0, 2, 0, 0, 0, 1, 2, 0, 1, 0, 0);
        coupling(x, 1, 2, 0, 0, 0, 1, 2, 0, 1, 0, 0);
        coupling(x, 0, 20, 0, 1, 1, 0, 2, 0, 0, 0, 0);
        coupling(x, 0, 0, 0, 0, 0, 0, 2, 1, 0, 1, 0);
        coupling(x, 1, 0, 0, 0, 0, 0, 3, 0, 0, 0, 1);
        // at distances 0 the smallest entries come first, at greater ones the diagonal is cheapest
        x = read("6:0,2>0,2>1,2>2;1,2>0,2>1,2>2;2,6>0");
        coupling(x, 0, 1, 0, 0, 2, 0, 2, 0, 2, 0, 0);
        coupling(x, 1, 1, 2, 0, 0, 0, 2, 0, 0, 0, 2);
        due("coupling(16, -1, 9, 9)", x.coupling(16, -1, 9, 9), BAD);
        due("coupling(-1, 0, 0, 0)", x.coupling(-1, 0, 0, 0), BAD);
        x.setDiscount(1, 4);
        int[][] bad = {{-1, 0, 0}, {3, 0, 0}, {30, 0, 0}, {100, 0, 0}, {0, 3, 0}, {0, 0, 3}, {0, -1, 0}, {0, 0, -1}};
        for (int[] b : bad) {
            due("coupling(15, " + b[0] + ", " + b[1] + ", " + b[2] + ")", x.coupling(15, b[0], b[1], b[2]), NO_STATE);
        }
        due("coupling(11, 1, 0, 0)", x.coupling(11, 1, 0, 0), -4);
        due("coupling(10, 1, 0, 0)", x.coupling(10, 1, 0, 0), 2);
    }

    private static void distributionDistances() {
        promise = 19;
        MarkovChainDistances x = read("9:0,9>0;0,1>0,2>1,6>3;0,4>1,3>2,2>3;0,9>3");
        int[][] want = {{5, 4, 6, 4}, {8, 8, 20, 1}, {9, 9, 16, 0}};
        int[][] pairs = {{1, 2}, {0, 1}, {0, 2}};
        for (int i = 0; i < pairs.length; i++) {
            for (int kind = 0; kind < 4; kind++) {
                int a = pairs[i][0];
                int b = pairs[i][1];
                due("distributionDistance(" + a + ", " + b + ", " + kind + ")", x.distributionDistance(a, b, kind), want[i][kind]);
                due("distributionDistance(" + b + ", " + a + ", " + kind + ")", x.distributionDistance(b, a, kind), want[i][kind]);
            }
        }
        due("distributionDistance(1, 1, 3)", x.distributionDistance(1, 1, 3), 9);
        for (int kind = 0; kind < 3; kind++) {
            due("distributionDistance(1, 1, " + kind + ")", x.distributionDistance(1, 1, kind), 0);
        }
        x.reset(6, 12);
        due("distributionDistance(0, 5, 2)", x.distributionDistance(0, 5, 2), 60);
        due("distributionDistance(5, 5, 3)", x.distributionDistance(5, 5, 3), 12);
        x.reset(4, 9);
        due("distributionDistance(4, 0, 9)", x.distributionDistance(4, 0, 9), NO_STATE);
        due("distributionDistance(0, 4, -1)", x.distributionDistance(0, 4, -1), NO_STATE);
        due("distributionDistance(-1, 0, 0)", x.distributionDistance(-1, 0, 0), NO_STATE);
        due("distributionDistance(0, 0, 4)", x.distributionDistance(0, 0, 4), BAD);
        due("distributionDistance(0, 0, -1)", x.distributionDistance(0, 0, -1), BAD);
    }

    private static void classes(MarkovChainDistances x, int... want) {
        promise = 20;
        int count = 0;
        for (int s = 0; s < want.length; s++) {
            due("bisimulationClass(" + s + ")", x.bisimulationClass(s), want[s]);
            count = Math.max(count, want[s] + 1);
        }
        promise = 21;
        due("bisimulationClassCount()", x.bisimulationClassCount(), count);
    }

    private static void bisimulation() {
        MarkovChainDistances x = fresh();
        classes(x, 0, 0);
        x.setLabel(0, 1);
        classes(x, 0, 1);
        classes(read("2:0,1>1,1>2;1,1>0,1>3;1,2>3;0,2>1"), 0, 1, 1, 0);
        // a chain of states: each round of splitting finds one class more
        classes(read("1:0,1>1;0,1>2;0,1>3;0,1>4;0,1>5;1,1>5"), 0, 1, 2, 3, 4, 5);
        classes(read("1:1,1>0;0,1>0;0,1>1;0,1>2;0,1>1;0,1>0"), 0, 1, 2, 3, 2, 1);
        classes(read("3:0,1>0,2>2;0,2>0,1>2;1,3>2"), 0, 1, 2);
        classes(read("1:0,1>1;0,1>2;0,1>0"), 0, 0, 0);
        promise = 20;
        due("bisimulationClass(2)", x.bisimulationClass(2), NO_STATE);
        due("bisimulationClass(-1)", x.bisimulationClass(-1), NO_STATE);
    }

    private static void minimizing() {
        promise = 22;
        MarkovChainDistances x = read("5:0,2>1,1>2,2>4;3,4>0,1>3;3,5>3;0,3>2,2>0;2,5>4");
        due("minimize()", x.minimize(), 5);
        x = read("5:1,2>1,1>2,2>3;3,4>0,1>4;3,5>4;2,5>3;1,3>1,2>3");
        x.setDiscount(1, 2);
        due("minimize()", x.minimize(), 3);
        due("resolution()", x.resolution(), 5);
        labels(x, 1, 3, 2);
        weights(x, 0, 3, 2, 5, 0, 0, 0, 0, 5);
        due("the discount stays: setDiscount(1, 2)", x.setDiscount(1, 2), 0);
        due("label(3)", x.label(3), NO_STATE);
        due("undo()", x.undo(), -5);
        due("minimize()", x.minimize(), 3);
    }

    private static void reaching() {
        promise = 23;
        MarkovChainDistances x = read("4:0,3>1,1>2;1,4>1;0,2>0,2>1");
        due("reachWeight(0, 2, 0)", x.reachWeight(0, 2, 0), 0);
        due("reachWeight(1, 2, 0)", x.reachWeight(1, 2, 0), 1);
        due("reachWeight(0, 2, 1)", x.reachWeight(0, 2, 1), 3);
        due("reachWeight(0, 2, 2)", x.reachWeight(0, 2, 2), 14);
        due("reachWeight(0, 1, 2)", x.reachWeight(0, 1, 2), 2);
        due("reachWeight(0, 3, 3)", x.reachWeight(0, 3, 3), 64);
        due("reachWeight(0, 15, 12)", x.reachWeight(0, 15, 12), 16777216);
        due("reachWeight(0, 0, 5)", x.reachWeight(0, 0, 5), 0);
        due("reachWeight(0, 12, 5)", x.reachWeight(0, 12, 5), 0);
        x.reset(6, 12);
        due("reachWeight(5, 1, 12)", x.reachWeight(5, 1, 12), 8916100448256L);
        int[][] bad = {{6, 1, 1}, {-1, 1, 1}, {0, -1, 1}, {0, 16, 1}, {0, 1, -1}, {0, 1, 13}};
        for (int[] b : bad) {
            promise = 23;
            due("reachWeight(" + b[0] + ", " + b[1] + ", " + b[2] + ")", x.reachWeight(b[0], b[1], b[2]), NO_VALUE);
            promise = 24;
            due("firstReachWeight(" + b[0] + ", " + b[1] + ", " + b[2] + ")", x.firstReachWeight(b[0], b[1], b[2]), NO_VALUE);
        }
    }

    private static void firstReaching() {
        promise = 24;
        MarkovChainDistances x = read("4:0,3>1,1>2;1,4>2;0,2>0,2>1");
        due("firstReachWeight(1, 2, 0)", x.firstReachWeight(1, 2, 0), 1);
        due("firstReachWeight(1, 2, 5)", x.firstReachWeight(1, 2, 5), 1024);
        due("firstReachWeight(0, 2, 0)", x.firstReachWeight(0, 2, 0), 0);
        due("firstReachWeight(0, 2, 1)", x.firstReachWeight(0, 2, 1), 3);
        due("firstReachWeight(0, 2, 2)", x.firstReachWeight(0, 2, 2), 14);
        due("firstReachWeight(2, 2, 3)", x.firstReachWeight(2, 2, 3), 60);
        due("firstReachWeight(2, 0, 3)", x.firstReachWeight(2, 0, 3), 0);
        due("firstReachWeight(2, 15, 12)", x.firstReachWeight(2, 15, 12), 16777216);
    }

    private static void sequences() {
        promise = 25;
        MarkovChainDistances x = read("4:0,3>1,1>2;1,4>1;0,2>0,2>1");
        due("0", sequence(x, 0, "0"), 1);
        due("1", sequence(x, 0, "1"), 0);
        due("01", sequence(x, 0, "01"), 3);
        due("001", sequence(x, 0, "001"), 2);
        due("000", sequence(x, 0, "000"), 2);
        due("0011", sequence(x, 2, "0011"), 24);
        due("0103", sequence(x, 0, "0103"), 0);
        due("13 digits", sequence(x, 1, "1111111111111"), 16777216);
        due("14 digits", sequence(x, 1, "11111111111111"), NO_VALUE);
        due("none", sequence(x, 1, ""), NO_VALUE);
        due("4", sequence(x, 1, "14"), NO_VALUE);
        due("/", sequence(x, 1, "1/"), NO_VALUE);
        due("a", sequence(x, 1, "a1"), NO_VALUE);
        due("3", sequence(x, 1, "3"), 0);
        due("no such state", sequence(x, 3, "1"), NO_VALUE);
        due("consumed: clearInput()", x.clearInput(), 0);
        due("no such state", sequence(x, -1, "1"), NO_VALUE);
        due("consumed: clearInput()", x.clearInput(), 0);
        due("01", sequence(x, 0, "01"), 3);
        due("consumed: clearInput()", x.clearInput(), 0);
        due("malformed", sequence(x, 0, "01 "), NO_VALUE);
        due("consumed: clearInput()", x.clearInput(), 0);
    }

    private static void sampling() {
        MarkovChainDistances x = read("7:0,1>0,2>1,4>2;1,3>0,3>1,1>2;1,5>0,2>2");
        int[] seeds = {0, 1, -1, 7, 123456789, LOW, HIGH, -987654321};
        for (int seed : seeds) {
            int s = 1;
            int generator = seed;
            int visits = 1;
            for (int steps = 0; steps <= 1000; steps++) {
                if (steps < 4 || steps > 998) {
                    promise = 26;
                    due("sample(1, " + seed + ", " + steps + ")", x.sample(1, seed, steps), s);
                    promise = 27;
                    due("sampledVisits(1, " + seed + ", " + steps + ", 1)", x.sampledVisits(1, seed, steps, 1), visits);
                    due("sampledVisits(1, " + seed + ", " + steps + ", 0)", x.sampledVisits(1, seed, steps, 0), steps + 1 - visits);
                    due("sampledVisits(1, " + seed + ", " + steps + ", 3)", x.sampledVisits(1, seed, steps, 3), 0);
                }
                generator = generator * 1103515245 + 12345;
                int draw = (generator >>> 16) % 7;
                int sum = x.weight(s, 0);
                int u = 0;
                while (sum <= draw) {
                    u++;
                    sum += x.weight(s, u);
                }
                s = u;
                visits += x.label(s) == 1 ? 1 : 0;
            }
        }
        promise = 26;
        due("sample(3, 0, -1)", x.sample(3, 0, -1), NO_STATE);
        due("sample(-1, 0, 1)", x.sample(-1, 0, 1), NO_STATE);
        due("sample(0, 0, -1)", x.sample(0, 0, -1), BAD);
        due("sample(0, 0, 1001)", x.sample(0, 0, 1001), BAD);
        promise = 27;
        due("sampledVisits(3, 0, -1, 0)", x.sampledVisits(3, 0, -1, 0), NO_STATE);
        due("sampledVisits(-1, 0, 1, 9)", x.sampledVisits(-1, 0, 1, 9), NO_STATE);
        due("sampledVisits(0, 0, -1, 0)", x.sampledVisits(0, 0, -1, 0), BAD);
        due("sampledVisits(0, 0, 1001, 0)", x.sampledVisits(0, 0, 1001, 0), BAD);
        due("sampledVisits(0, 0, 1, 4)", x.sampledVisits(0, 0, 1, 4), BAD);
        due("sampledVisits(0, 0, 1, -1)", x.sampledVisits(0, 0, 1, -1), BAD);
    }

    private static void appending() {
        promise = 28;
        MarkovChainDistances x = fresh();
        due("append(0, 0)", x.append(0, 0), BAD);
        due("append(0, 5)", x.append(0, 5), BAD);
        due("append(0, -1)", x.append(0, -1), BAD);
        due("append(128, 1)", x.append(128, 1), BAD);
        due("append(0x8001, 2)", x.append(0x8001, 2), BAD);
        due("append(0x800101, 3)", x.append(0x800101, 3), BAD);
        due("append(0x80010101, 4)", x.append(0x80010101, 4), BAD);
        due("bytes that are not appended don't matter: append(0xFFFFFF30, 1)", x.append(0xFFFFFF30, 1), 1);
        due("append(0xFF303101, 3)", x.append(0xFF7F7F7F, 3), 4);
        due("clearInput()", x.clearInput(), 4);
        x.append(0x7A313A30, 3);
        x.append(0x002C313E, 3);
        x.append('0', 1);
        due("the first byte is the most significant one: parse()", x.parse(), 1);
        for (int i = 1; i <= 19; i++) {
            due("append(0, 4)", x.append(0, 4), 4 * i);
        }
        due("append(0, 3)", x.append(0, 3), 79);
        due("append(0, 2)", x.append(0, 2), -6);
        due("append(128, 2)", x.append(128, 2), BAD);
        due("append(0, 1)", x.append(0, 1), 80);
        due("append(0, 1)", x.append(0, 1), -6);
        promise = 29;
        due("clearInput()", x.clearInput(), 80);
        due("clearInput()", x.clearInput(), 0);
        due("append(48, 1)", x.append(48, 1), 1);
        due("clearInput()", x.clearInput(), 1);
    }

    private static void parsing() {
        promise = 30;
        MarkovChainDistances x = fresh();
        x.setDiscount(1, 2);
        type(x, "04:3,00>0,1>0,02>1,1>0;2,4>1");
        due("parse()", x.parse(), 2);
        due("consumed: clearInput()", x.clearInput(), 0);
        due("resolution()", x.resolution(), 4);
        labels(x, 3, 2);
        weights(x, 2, 2, 0, 4);
        due("the discount stays: setDiscount(1, 2)", x.setDiscount(1, 2), 0);
        type(x, "12:1,12>5;1,12>4;0,6>3,6>2;1,12>2;2,12>1;3,12>0");
        due("parse()", x.parse(), 6);
        labels(x, 1, 1, 0, 1, 2, 3);
        due("weight(0, 5)", x.weight(0, 5), 12);
        due("weight(2, 2)", x.weight(2, 2), 6);
        due("weight(2, 3)", x.weight(2, 3), 6);
        type(x, "1:0,1>0");
        due("parse()", x.parse(), 1);
        due("states()", x.states(), 1);
        x.setLabel(0, 2);
        String[] bad = {"1:0,1>1", "1;", "1:0,1>0;"};
        int[] answers = {-8, -1001, -1008};
        for (int i = 0; i < bad.length; i++) {
            type(x, bad[i]);
            due(bad[i], x.parse(), answers[i]);
            due("consumed: clearInput()", x.clearInput(), 0);
            labels(x, 2);
            weights(x, 1);
            due("editCount()", x.editCount(), 1);
        }
        String full = "12:0" + ",1>0".repeat(12) + ",0>0".repeat(7);
        due("the length of the full text", full.length(), 80);
        due(full, parsed(full), 1);
        due("a full buffer that ends too early", parsed(full.replace("12:0", "12:0,00>0").substring(0, 80)), -1080);
    }

    private static void parsingErrors() {
        promise = 30;
        malformed("", 0);
        malformed("a", 0);
        malformed(" 1:0,1>0", 0);
        malformed("1", 1);
        malformed("12", 2);
        malformed("123", 2);
        malformed("1:", 2);
        malformed("1:/", 2);
        malformed("1::", 2);
        malformed("1:0", 3);
        malformed("1:00", 3);
        malformed("1:0;", 3);
        malformed("1:0,", 4);
        malformed("1:0,,", 4);
        malformed("1:0,>0", 4);
        malformed("1:0,1", 5);
        malformed("1:0,1=0", 5);
        malformed("1:0,11", 6);
        malformed("1:0,111", 6);
        malformed("1:0,1>", 6);
        malformed("1:0,1>,", 6);
        malformed("1:0,1>00", 7);
        malformed("1:0,1>0 ", 7);
        malformed("1:0,1>0:", 7);
        malformed("1:0,1>0,", 8);
        malformed("1:0,1>0;", 8);
        malformed("1:0,1>0;,", 8);
        malformed("1:0,1>0;0", 9);
        malformed("1:0,1>0;0;", 9);
        malformed("99:9,99>9;", 10);
        String six = "1:0,1>0;0,1>0;0,1>0;0,1>0;0,1>0;0,1>0";
        due(six, parsed(six), 6);
        due("a seventh state", parsed(six + ";0,1>0"), -1037);
        due("a ; after the sixth state", parsed(six + ";"), -1037);
        String[] inconsistent = {"0:0,0>0", "00:0,0>0", "13:0,13>0", "99:0,99>0", "1:4,1>0", "1:9,1>0", "1:0,1>1", "1:0,1>9",
            "1:0,1>0,0>1", "1:0,0>0", "1:0,2>0", "2:0,1>0", "2:0,2>0;0,1>1", "1:0,1>0,1>0", "2:0,99>0", "1:0,1>0;4,1>0", "1:0,1>2;0,1>1"};
        for (String text : inconsistent) {
            due(text, parsed(text), -8);
        }
        due("malformed and inconsistent", parsed("0:9,0>9;"), -1008);
        due("the greatest numbers", parsed("99:9,99>9;9,99>9;9,99>9;9,99>9;9,99>9;9,99>9"), -8);
    }

    private static void malformed(String text, int position) {
        due("parse() of " + text, parsed(text), -1000 - position);
    }

    private static void allocating() {
        promise = 31;
        MarkovChainDistances x = fresh();
        for (int type = 0; type < 4; type++) {
            due("allocate(1, " + type + ", 40)", x.allocate(1, type, 40), 40);
            due("element(1, 39)", x.element(1, 39), 0);
            due("element(1, 40)", x.element(1, 40), NO_VALUE);
            x.putElement(1, 39, 5);
        }
        due("allocate(1, 3, 0)", x.allocate(1, 3, 0), 0);
        due("element(1, 0)", x.element(1, 0), NO_VALUE);
        due("allocate(0, 0, 2)", x.allocate(0, 0, 2), 2);
        x.putElement(0, 1, 9);
        int[][] bad = {{4, 0, 0}, {-1, 0, 0}, {0, 4, 0}, {0, -1, 0}, {0, 0, 41}, {4, 0, -1}, {0, 4, -1}, {LOW, 0, 0}, {0, HIGH, 0}, {0, 0, HIGH}};
        for (int[] b : bad) {
            due("allocate(" + b[0] + ", " + b[1] + ", " + b[2] + ")", x.allocate(b[0], b[1], b[2]), BAD);
        }
        due("allocate(0, 0, -1)", x.allocate(0, 0, -1), -14);
        due("allocate(0, 3, MIN)", x.allocate(0, 3, LOW), -14);
        due("the array stays: element(0, 1)", x.element(0, 1), 9);
        promise = 32;
        due("release(0)", x.release(0), 1);
        due("release(0)", x.release(0), 0);
        due("element(0, 1)", x.element(0, 1), NO_VALUE);
        due("an array without elements: release(1)", x.release(1), 1);
        due("release(3)", x.release(3), 0);
        due("release(4)", x.release(4), BAD);
        due("release(-1)", x.release(-1), BAD);
        promise = 31;
        x.allocate(0, 0, 2);
        row(x, 0, 0, 0);
        x.putElement(0, 0, 7);
        x.putElement(0, 1, 8);
        x.allocate(0, 3, 2);
        row(x, 0, 0, 0);
    }

    private static void elements() {
        MarkovChainDistances x = fresh();
        long[] values = {0, 1, -1, 127, 128, 255, 256, -129, 32768, 65535, 65536, 1L << 31, (1L << 31) - 1, -1L << 40, Long.MIN_VALUE, Long.MAX_VALUE};
        for (int type = 0; type < 4; type++) {
            x.allocate(type, type, values.length);
            for (int i = 0; i < values.length; i++) {
                promise = 33;
                due("putElement(" + type + ", " + i + ", " + values[i] + ")", x.putElement(type, i, values[i]), 1);
            }
            for (int i = 0; i < values.length; i++) {
                promise = 34;
                long want = type == 0 ? (byte) values[i] : type == 1 ? (char) values[i] : type == 2 ? (int) values[i] : values[i];
                due("element(" + type + ", " + i + ")", x.element(type, i), want);
            }
        }
        x.release(2);
        promise = 33;
        due("putElement(4, -1, 0)", x.putElement(4, -1, 0), BAD);
        due("putElement(-1, 0, 0)", x.putElement(-1, 0, 0), BAD);
        due("putElement(2, -1, 0)", x.putElement(2, -1, 0), -11);
        due("putElement(1, -1, 0)", x.putElement(1, -1, 0), -13);
        due("putElement(1, 16, 0)", x.putElement(1, 16, 0), -13);
        due("putElement(1, MAX, 0)", x.putElement(1, HIGH, 0), -13);
        promise = 34;
        due("element(4, 0)", x.element(4, 0), NO_VALUE);
        due("element(-1, 0)", x.element(-1, 0), NO_VALUE);
        due("element(2, 0)", x.element(2, 0), NO_VALUE);
        due("element(1, -1)", x.element(1, -1), NO_VALUE);
        due("element(1, 16)", x.element(1, 16), NO_VALUE);
    }

    private static void row(MarkovChainDistances x, int slot, long... want) {
        for (int i = 0; i < want.length; i++) {
            due("element(" + slot + ", " + i + ")", x.element(slot, i), want[i]);
        }
    }

    private static void copying() {
        promise = 35;
        MarkovChainDistances x = fresh();
        x.allocate(0, 2, 6);
        x.allocate(1, 2, 4);
        x.allocate(2, 3, 4);
        for (int i = 0; i < 6; i++) {
            x.putElement(0, i, i + 1);
        }
        due("copyElements(0, 1, 1, 0, 3)", x.copyElements(0, 1, 1, 0, 3), 3);
        row(x, 1, 2, 3, 4, 0);
        due("copyElements(0, 0, 0, 2, 4)", x.copyElements(0, 0, 0, 2, 4), 4);
        row(x, 0, 1, 2, 1, 2, 3, 4);
        due("copyElements(0, 2, 0, 1, 4)", x.copyElements(0, 2, 0, 1, 4), 4);
        row(x, 0, 1, 1, 2, 3, 4, 4);
        due("copyElements(0, 6, 1, 4, 0)", x.copyElements(0, 6, 1, 4, 0), 0);
        int[][] outside = {{0, -1, 1, 0, 1}, {0, 0, 1, -1, 1}, {0, 0, 1, 0, -1}, {0, 3, 1, 0, 4}, {0, 0, 1, 1, 4}, {0, 7, 1, 0, 0},
            {0, 0, 1, 5, 0}, {0, 1, 1, 0, HIGH}, {0, HIGH, 1, 0, 1}, {0, 0, 1, HIGH, HIGH}, {0, LOW, 1, LOW, LOW}, {0, 0, 1, 0, 5}};
        for (int[] o : outside) {
            due("copyElements(" + java.util.Arrays.toString(o) + ")", x.copyElements(o[0], o[1], o[2], o[3], o[4]), -13);
        }
        row(x, 1, 2, 3, 4, 0);
        due("copyElements(0, -1, 2, 0, 1)", x.copyElements(0, -1, 2, 0, 1), -12);
        due("copyElements(0, -1, 3, 0, 1)", x.copyElements(0, -1, 3, 0, 1), -11);
        due("copyElements(3, -1, 0, 0, 1)", x.copyElements(3, -1, 0, 0, 1), -11);
        due("copyElements(3, -1, 4, 0, 1)", x.copyElements(3, -1, 4, 0, 1), BAD);
        due("copyElements(-1, -1, 0, 0, 1)", x.copyElements(-1, -1, 0, 0, 1), BAD);
    }

    private static void comparingArrays() {
        promise = 36;
        MarkovChainDistances x = read("4:0,3>1,1>2;1,4>1;0,2>0,2>1");
        int[] weights = {0, 3, 1, 0, 4, 0, 2, 2, 0};
        x.allocate(0, 0, 9);
        for (int i = 0; i < 9; i++) {
            if (weights[i] != 0) {
                due("compareWithArray(0)", x.compareWithArray(0), i);
            }
            x.putElement(0, i, weights[i]);
        }
        due("compareWithArray(0)", x.compareWithArray(0), -7);
        x.putElement(0, 8, -1);
        due("compareWithArray(0)", x.compareWithArray(0), 8);
        x.putElement(0, 0, 1);
        due("compareWithArray(0)", x.compareWithArray(0), 0);
        x.putElement(0, 0, 256);
        x.allocate(1, 0, 8);
        x.copyElements(0, 0, 1, 0, 8);
        due("too short: compareWithArray(1)", x.compareWithArray(1), 8);
        x.allocate(1, 0, 40);
        x.copyElements(0, 0, 1, 0, 8);
        due("too long: compareWithArray(1)", x.compareWithArray(1), 9);
        x.allocate(1, 0, 0);
        due("without elements: compareWithArray(1)", x.compareWithArray(1), 0);
        due("compareWithArray(2)", x.compareWithArray(2), -11);
        for (int type = 1; type < 4; type++) {
            x.allocate(2, type, 9);
            due("compareWithArray(2)", x.compareWithArray(2), -12);
        }
        due("compareWithArray(4)", x.compareWithArray(4), BAD);
        due("compareWithArray(-1)", x.compareWithArray(-1), BAD);
    }

    private static void snapshots() {
        MarkovChainDistances x = read("4:0,3>1,1>2;1,4>1;3,2>0,2>1");
        x.setDiscount(1, 3);
        promise = 37;
        due("snapshot()", x.snapshot(), 3);
        x.reset(6, 2);
        x.setDiscount(2, 3);
        promise = 38;
        for (int i = 0; i < 2; i++) {
            due("restore()", x.restore(), 3);
            due("resolution()", x.resolution(), 4);
            labels(x, 0, 1, 3);
            weights(x, 0, 3, 1, 0, 4, 0, 2, 2, 0);
            due("the discount is back: setDiscount(1, 3)", x.setDiscount(1, 3), 0);
            due("editCount()", x.editCount(), 0);
            x.setLabel(2, 0);
            x.setDiscount(0, 1);
        }
        promise = 37;
        x.reset(1, 5);
        due("a later snapshot replaces an earlier one: snapshot()", x.snapshot(), 1);
        x.reset(2, 2);
        promise = 38;
        due("restore()", x.restore(), 1);
        weights(x, 5);
        due("the later discount: setDiscount(0, 1)", x.setDiscount(0, 1), 0);
    }
}
