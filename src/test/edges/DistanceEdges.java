import java.math.BigInteger;
import java.util.ArrayList;
import java.util.List;

/** Promises 13 to 19: depths, distances and couplings. */
final class DistanceEdges {
    /** Its distances of 0 and 2 are 0, 0, 1/4, 5/16 .. at the depths 0, 1, 2, 3 .. */
    private static final String THREE = "read('4:0,3>1,1>2;1,4>1;0,2>0,2>1'): 3; ";

    /** The states 2 and 3 differ from depth 2 on. */
    private static final String FIVE = "read('2:0,1>2,1>3;0,1>2,1>3;0,2>2;0,2>4;1,2>4'): 5; ";

    private final Sentences document;

    DistanceEdges(Sentences document) {
        this.document = document;
    }

    void run() {
        maximumDepth();
        distanceNumerator();
        distanceDenominator();
        compareDistances();
        compareDistancesRefused();
        farthestPair();
        coupling();
        couplingRefused();
        distributionKinds();
        distributionDistance();
    }

    private void maximumDepth() {
        document.promise(13, "Returns the greatest supported depth.",
                "reset(2, 12): 2; maximumDepth(): 13; setDiscount(0, 4): 1; maximumDepth(): 8; undo(): 0;"
                + " maximumDepth(): 13",
                "reset(2, 10): 2; maximumDepth(): 15; setDiscount(1, 2): 1; maximumDepth(): 11; reset(2, 5): 2;"
                + " maximumDepth(): 15");
        document.promise(13, "Returns the greatest supported depth;", greatestDepths());
        document.promise(13, "99 if every depth is supported.",
                "maximumDepth(): 99; setDiscount(0, 1): 1; maximumDepth(): 99; setDiscount(0, 2): 1; maximumDepth(): 49;"
                + " setDiscount(2, 2): 1; maximumDepth(): 49; setDiscount(1, 1): 1; maximumDepth(): 99",
                "reset(6, 1): 2; maximumDepth(): 99; reset(1, 2): 6; maximumDepth(): 49; reset(1, 1): 1;"
                + " maximumDepth(): 99");
    }

    /** A script for each denominator and each resolution. */
    private static String[] greatestDepths() {
        List<String> scripts = new ArrayList<>();
        BigInteger limit = BigInteger.TEN.pow(15);
        for (int denominator = 1; denominator <= 4; denominator++) {
            for (int resolution = 1; resolution <= 12; resolution++) {
                BigInteger base = BigInteger.valueOf(denominator * resolution);
                int depth = 0;
                while (depth < 99 && base.pow(depth + 1).compareTo(limit) <= 0) {
                    depth++;
                }
                scripts.add("setDiscount(0, " + denominator + "): 1; reset(2, " + resolution + "): 2; maximumDepth(): " + depth);
            }
        }
        return scripts.toArray(new String[0]);
    }

    private void distanceNumerator() {
        document.promise(14, "Returns the numerator of a distance in lowest terms.",
                "read('4:0,2>0,2>1;1,4>1;0,4>2'): 3; distanceNumerator(2, 0, 2): 1; distanceNumerator(3, 0, 2): 3;"
                + " distanceNumerator(4, 2, 0): 7; distanceNumerator(1, 0, 1): 1",
                THREE + "distanceNumerator(5, 0, 2): 85; distanceNumerator(5, 2, 0): 85");
        document.promise(14, "- `depth`: the depth, 0 to 15",
                "setLabel(1, 1): 0; distanceNumerator(-1, 0, 1): NO_VALUE; distanceNumerator(0, 0, 1): 0;"
                + " distanceNumerator(1, 0, 1): 1; distanceNumerator(15, 0, 1): 1; distanceNumerator(16, 0, 1): NO_VALUE",
                // a deep query does not spoil a shallow one
                THREE + "distanceNumerator(15, 0, 2): 89478485; distanceNumerator(2, 0, 2): 1; distanceNumerator(0, 0, 2): 0");
        document.promise(14, "- `first`: a state - `second`: a state",
                "reset(6, 1): 2; setLabel(5, 1): 0; distanceNumerator(1, 0, 5): 1; distanceNumerator(1, 5, 0): 1;"
                + " distanceNumerator(1, 5, 5): 0; distanceNumerator(1, 6, 0): NO_VALUE; distanceNumerator(1, 0, 6): NO_VALUE");
        document.promise(14, "Returns the numerator, 0 for the distance 0;",
                "distanceNumerator(0, 0, 1): 0; distanceNumerator(15, 0, 1): 0; distanceNumerator(15, 1, 1): 0",
                THREE + "distanceNumerator(1, 0, 2): 0; setDiscount(0, 4): 1; distanceNumerator(9, 0, 2): 0;"
                + " distanceNumerator(9, 0, 1): 1");
        document.promise(14, "NO_VALUE if the depth is out of range or not supported, or a state does not exist.",
                "distanceNumerator(MIN, 0, 0): NO_VALUE; distanceNumerator(MAX, 0, 0): NO_VALUE",
                "reset(2, 11): 2; distanceNumerator(15, 0, 0): NO_VALUE; distanceNumerator(14, 0, 0): 0",
                "reset(2, 12): 2; setDiscount(4, 4): 1; distanceNumerator(9, 0, 1): NO_VALUE; distanceNumerator(8, 0, 1): 0",
                "distanceNumerator(0, 2, 0): NO_VALUE; distanceNumerator(0, 0, 2): NO_VALUE;"
                + " distanceNumerator(0, -1, 0): NO_VALUE; distanceNumerator(0, 0, -1): NO_VALUE;"
                + " distanceNumerator(0, MIN, MAX): NO_VALUE; distanceNumerator(16, 2, 2): NO_VALUE");
    }

    private void distanceDenominator() {
        document.promise(15, "Returns the denominator of a distance in lowest terms.",
                "read('4:0,2>0,2>1;1,4>1;0,4>2'): 3; distanceDenominator(2, 0, 2): 2; distanceDenominator(3, 0, 2): 4;"
                + " distanceDenominator(4, 2, 0): 8; distanceDenominator(4, 0, 1): 1",
                THREE + "distanceDenominator(5, 0, 2): 256; distanceDenominator(5, 2, 0): 256");
        document.promise(15, "- `depth`: the depth, 0 to 15",
                "setLabel(1, 1): 0; distanceDenominator(-1, 0, 1): NO_VALUE; distanceDenominator(0, 0, 1): 1;"
                + " distanceDenominator(15, 0, 1): 1; distanceDenominator(16, 0, 1): NO_VALUE",
                // 1 - (11/12)^12, at the greatest supported depth
                "read('12:0,1>1,11>0;1,12>1;0,12>2'): 3; distanceDenominator(13, 0, 2): 8916100448256;"
                + " distanceNumerator(13, 0, 2): 5777672071535; distanceDenominator(2, 0, 2): 12",
                THREE + "distanceDenominator(15, 0, 2): 268435456");
        document.promise(15, "- `first`: a state - `second`: a state",
                "reset(6, 1): 2; distanceDenominator(1, 0, 5): 1; distanceDenominator(1, 5, 0): 1;"
                + " distanceDenominator(1, 6, 0): NO_VALUE; distanceDenominator(1, 0, 6): NO_VALUE");
        document.promise(15, "Returns the denominator, 1 for the distance 0;",
                "reset(2, 12): 2; distanceDenominator(0, 0, 1): 1; distanceDenominator(13, 0, 1): 1;"
                + " distanceDenominator(13, 1, 1): 1",
                THREE + "distanceDenominator(1, 0, 2): 1; setDiscount(0, 4): 1; distanceDenominator(9, 0, 2): 1");
        document.promise(15, "NO_VALUE if the depth is out of range or not supported, or a state does not exist.",
                "distanceDenominator(MIN, 0, 0): NO_VALUE; distanceDenominator(MAX, 0, 0): NO_VALUE",
                "reset(2, 11): 2; distanceDenominator(15, 0, 0): NO_VALUE; distanceDenominator(14, 0, 0): 1",
                "distanceDenominator(0, 2, 0): NO_VALUE; distanceDenominator(0, 0, 2): NO_VALUE;"
                + " distanceDenominator(0, -1, 0): NO_VALUE; distanceDenominator(0, 0, -1): NO_VALUE;"
                + " distanceDenominator(0, MAX, MIN): NO_VALUE; distanceDenominator(-1, 2, 2): NO_VALUE");
    }

    private void compareDistances() {
        document.promise(16, "Compares the distances of two pairs of states at one depth.",
                THREE + "compareDistances(1, 2, 0): 1; compareDistances(2, 2, 0): 2; compareDistances(0, 1, 2): 1");
        document.promise(16, "- `depth`: the depth, 0 to 15",
                "setLabel(1, 1): 0; compareDistances(-1, 0, 1): BAD_ARGUMENT; compareDistances(0, 0, 1): 1;"
                + " compareDistances(1, 0, 1): 0; compareDistances(15, 0, 1): 0; compareDistances(16, 0, 1): BAD_ARGUMENT");
        document.promise(16, "- `firstPair`: the first pair, as 10 times one state plus the other state",
                "reset(6, 1): 2; setLabel(5, 1): 0; compareDistances(1, 5, 0): 2; compareDistances(1, 50, 0): 2;"
                + " compareDistances(1, 55, 0): 1; compareDistances(1, 44, 0): 1; compareDistances(1, 54, 0): 2;"
                + " compareDistances(1, 4, 0): 1; compareDistances(1, 6, 0): NO_SUCH_STATE;"
                + " compareDistances(1, 60, 0): NO_SUCH_STATE; compareDistances(1, 56, 0): NO_SUCH_STATE");
        document.promise(16, "- `secondPair`: the second pair, likewise",
                "reset(6, 1): 2; setLabel(5, 1): 0; compareDistances(1, 0, 5): 0; compareDistances(1, 0, 50): 0;"
                + " compareDistances(1, 0, 55): 1; compareDistances(1, 0, 44): 1; compareDistances(1, 0, 54): 0;"
                + " compareDistances(1, 0, 6): NO_SUCH_STATE; compareDistances(1, 0, 60): NO_SUCH_STATE;"
                + " compareDistances(1, 0, 65): NO_SUCH_STATE");
        document.promise(16, "Returns 0 if the first pair has the smaller distance, 1 if the distances are equal, 2 if it has"
                + " the larger one;",
                THREE + "compareDistances(3, 2, 1): 0; compareDistances(3, 1, 2): 2; compareDistances(3, 2, 20): 1;"
                + " compareDistances(3, 12, 1): 1; compareDistances(3, 11, 20): 0; compareDistances(3, 20, 11): 2;"
                + " compareDistances(3, 0, 11): 1",
                // at depth 2, 1/12 and 2/12
                "read('12:0,1>1,11>0;1,12>1;0,12>2;0,2>1,10>3'): 4; compareDistances(2, 2, 32): 0;"
                + " compareDistances(2, 23, 20): 2; compareDistances(1, 23, 20): 1");
    }

    private void compareDistancesRefused() {
        document.promise(16, "BAD_ARGUMENT if the depth is out of range (checked first);",
                "compareDistances(16, -1, 99): BAD_ARGUMENT; compareDistances(-1, 2, 2): BAD_ARGUMENT;"
                + " compareDistances(MIN, 0, 0): BAD_ARGUMENT; compareDistances(MAX, 0, 0): BAD_ARGUMENT",
                "reset(2, 12): 2; compareDistances(16, 0, 0): BAD_ARGUMENT; compareDistances(14, 0, 0): DEPTH_UNSUPPORTED");
        document.promise(16, "NO_SUCH_STATE if a pair has a negative number or a state that does not exist (checked second);",
                "compareDistances(0, -1, 0): NO_SUCH_STATE; compareDistances(0, 0, -1): NO_SUCH_STATE;"
                + " compareDistances(0, -10, 0): NO_SUCH_STATE; compareDistances(0, 0, -11): NO_SUCH_STATE;"
                + " compareDistances(0, MIN, 0): NO_SUCH_STATE; compareDistances(0, 0, MIN): NO_SUCH_STATE",
                "compareDistances(0, 2, 0): NO_SUCH_STATE; compareDistances(0, 20, 0): NO_SUCH_STATE;"
                + " compareDistances(0, 0, 2): NO_SUCH_STATE; compareDistances(0, 0, 20): NO_SUCH_STATE;"
                + " compareDistances(0, 12, 0): NO_SUCH_STATE; compareDistances(0, 0, 21): NO_SUCH_STATE;"
                + " compareDistances(0, 100, 0): NO_SUCH_STATE; compareDistances(0, 0, 101): NO_SUCH_STATE;"
                + " compareDistances(0, MAX, 0): NO_SUCH_STATE; compareDistances(0, 0, MAX): NO_SUCH_STATE;"
                + " compareDistances(0, 11, 10): 1",
                "reset(2, 12): 2; compareDistances(14, 2, 0): NO_SUCH_STATE; compareDistances(14, 0, 20): NO_SUCH_STATE;"
                + " compareDistances(15, -1, 0): NO_SUCH_STATE");
        document.promise(16, "DEPTH_UNSUPPORTED.",
                "reset(2, 12): 2; compareDistances(14, 0, 1): DEPTH_UNSUPPORTED; compareDistances(15, 1, 1): DEPTH_UNSUPPORTED;"
                + " compareDistances(13, 0, 1): 1",
                "reset(2, 12): 2; setDiscount(0, 4): 1; compareDistances(9, 0, 1): DEPTH_UNSUPPORTED;"
                + " compareDistances(8, 0, 1): 1");
    }

    private void farthestPair() {
        document.promise(17, "Finds the pair of states with the maximum distance at a depth.",
                "reset(6, 1): 2; setLabel(5, 1): 0; farthestPair(1): 5; setLabel(3, 2): 0; farthestPair(1): 3;"
                + " farthestPair(0): 1");
        document.promise(17, "Pairs are ordered by their first state, then by their second state; the first state is the lower"
                + " one.",
                "read('1:0,1>0;1,1>1;0,1>2;2,1>3'): 4; farthestPair(4): 1; swapStates(0, 3): 1; farthestPair(4): 1",
                // the states 0 and 1 have equal labels, but other successors
                "read('1:0,1>2;0,1>3;1,1>2;2,1>3'): 4; farthestPair(1): 2; farthestPair(2): 1; setDiscount(3, 4): 1;"
                + " farthestPair(2): 2");
        document.promise(17, "- `depth`: the depth, 0 to 15",
                "setLabel(1, 1): 0; farthestPair(-1): BAD_ARGUMENT; farthestPair(0): 1; farthestPair(15): 1;"
                + " farthestPair(16): BAD_ARGUMENT");
        document.promise(17, "Returns 10 times the first state plus the second state of the first pair with the maximum"
                + " distance;",
                "reset(3, 4): 2; farthestPair(0): 1; farthestPair(12): 1; setLabel(2, 3): 0; farthestPair(12): 2;"
                + " setLabel(1, 3): 0; farthestPair(12): 1; setLabel(0, 3): 0; farthestPair(12): 1",
                "reset(5, 1): 2; setLabel(4, 1): 0; farthestPair(15): 4");
        document.promise(17, "BAD_ARGUMENT if the depth is out of range (checked first);",
                "reset(1, 12): 2; farthestPair(16): BAD_ARGUMENT; farthestPair(-1): BAD_ARGUMENT;"
                + " farthestPair(MIN): BAD_ARGUMENT; farthestPair(MAX): BAD_ARGUMENT",
                "reset(2, 12): 2; farthestPair(16): BAD_ARGUMENT");
        document.promise(17, "DEPTH_UNSUPPORTED (checked second);",
                "reset(1, 12): 2; farthestPair(14): DEPTH_UNSUPPORTED; farthestPair(15): DEPTH_UNSUPPORTED",
                "reset(2, 12): 2; farthestPair(14): DEPTH_UNSUPPORTED; farthestPair(13): 1");
        document.promise(17, "NONE if there is only one state.",
                "reset(1, 12): 2; farthestPair(13): NONE; farthestPair(0): NONE; reset(2, 12): 1; farthestPair(13): 1",
                "minimize(): 1; farthestPair(15): NONE");
    }

    private void coupling() {
        String zeros = "0,0,0,0,0,";
        String crossed = zeros + zeros + "0,0,0,1,0,0,0,1,0,0,0,0,0,0,0";
        String straight = zeros + zeros + "0,0,1,0,0,0,0,0,1,0,0,0,0,0,0";
        document.promise(18, "Returns one entry of the canonical optimal coupling of two states for the distances of a depth.",
                FIVE + "wholeCoupling(0, 1): " + crossed + "; wholeCoupling(1, 1): " + crossed + "; wholeCoupling(2, 1): "
                + straight + "; wholeCoupling(15, 1): " + straight,
                // also of states with different labels
                FIVE + "wholeCoupling(2, 4): " + zeros + zeros + "0,0,0,0,1,0,0,0,0,1,0,0,0,0,0",
                THREE + "wholeCoupling(1, 2): 0,0,0,1,2,0,1,0,0; wholeCoupling(0, 0): 0,0,0,0,2,1,0,1,0;"
                + " wholeCoupling(1, 0): 0,0,0,0,3,0,0,0,1");
        document.promise(18, "- `depth`: the depth of the distances, 0 to 15",
                "setLabel(1, 1): 0; coupling(-1, 0, 0, 0): BAD_ARGUMENT; coupling(0, 0, 0, 0): 1; coupling(15, 0, 0, 0): 1;"
                + " coupling(16, 0, 0, 0): BAD_ARGUMENT",
                // a deep query does not spoil a shallow one
                FIVE + "coupling(15, 1, 2, 2): 1; coupling(1, 1, 2, 2): 0; coupling(2, 1, 2, 2): 1; coupling(0, 1, 2, 3): 1");
        document.promise(18, "- `pair`: the two states, as 10 times the first state plus the second one",
                "reset(6, 12): 2; coupling(0, 5, 0, 5): 12; coupling(0, 5, 5, 0): 0; coupling(0, 50, 5, 0): 12;"
                + " coupling(0, 50, 0, 5): 0; coupling(0, 55, 5, 5): 12; coupling(0, 12, 1, 2): 12; coupling(0, 21, 2, 1): 12");
        document.promise(18, "- `row`: the row, a state - `column`: the column, a state",
                "read('5:0,2>0,3>1;0,5>1'): 2; coupling(0, 1, 0, 0): 0; coupling(0, 1, 0, 1): 2; coupling(0, 1, 1, 0): 0;"
                + " coupling(0, 1, 1, 1): 3; coupling(0, 10, 1, 0): 2; coupling(0, 10, 0, 1): 0");
        document.promise(18, "Returns the entry;",
                "reset(1, 1): 2; coupling(15, 0, 0, 0): 1; reset(1, 12): 1; coupling(13, 0, 0, 0): 12",
                "reset(2, 12): 2; coupling(3, 1, 0, 1): 12; coupling(3, 1, 0, 0): 0");
    }

    private void couplingRefused() {
        document.promise(18, "BAD_ARGUMENT if the depth is out of range (checked first);",
                "coupling(16, -1, 9, 9): BAD_ARGUMENT; coupling(-1, 2, 2, 2): BAD_ARGUMENT; coupling(MIN, 0, 0, 0): BAD_ARGUMENT;"
                + " coupling(MAX, 0, 0, 0): BAD_ARGUMENT",
                "reset(2, 12): 2; coupling(16, 0, 0, 0): BAD_ARGUMENT");
        document.promise(18, "NO_SUCH_STATE if the pair is negative, or a state of the pair, the row or the column does not exist"
                + " (checked second);",
                "coupling(0, -1, 0, 0): NO_SUCH_STATE; coupling(0, -10, 0, 0): NO_SUCH_STATE; coupling(0, MIN, 0, 0): NO_SUCH_STATE",
                "coupling(0, 2, 0, 0): NO_SUCH_STATE; coupling(0, 20, 0, 0): NO_SUCH_STATE; coupling(0, 12, 0, 0): NO_SUCH_STATE;"
                + " coupling(0, 21, 0, 0): NO_SUCH_STATE; coupling(0, 100, 0, 0): NO_SUCH_STATE;"
                + " coupling(0, MAX, 0, 0): NO_SUCH_STATE; coupling(0, 11, 1, 1): 1",
                "coupling(0, 0, 2, 0): NO_SUCH_STATE; coupling(0, 0, -1, 0): NO_SUCH_STATE; coupling(0, 0, MIN, 0): NO_SUCH_STATE;"
                + " coupling(0, 0, MAX, 0): NO_SUCH_STATE",
                "coupling(0, 0, 0, 2): NO_SUCH_STATE; coupling(0, 0, 0, -1): NO_SUCH_STATE; coupling(0, 0, 0, MIN): NO_SUCH_STATE;"
                + " coupling(0, 0, 0, MAX): NO_SUCH_STATE",
                "reset(2, 12): 2; coupling(14, 2, 0, 0): NO_SUCH_STATE; coupling(14, -1, 0, 0): NO_SUCH_STATE;"
                + " coupling(14, 0, 2, 0): NO_SUCH_STATE; coupling(14, 0, 0, 2): NO_SUCH_STATE");
        document.promise(18, "DEPTH_UNSUPPORTED.",
                "reset(2, 12): 2; coupling(14, 1, 0, 1): DEPTH_UNSUPPORTED; coupling(13, 1, 0, 1): 12",
                "reset(2, 12): 2; setDiscount(0, 4): 1; coupling(9, 1, 0, 1): DEPTH_UNSUPPORTED; coupling(8, 1, 0, 1): 12");
    }

    private void distributionKinds() {
        String four = "read('9:0,9>0;0,1>0,2>1,6>3;0,4>1,3>2,2>3;0,9>3'): 4; ";
        document.promise(19, "Returns a distance of the successor distributions of two states that ignores the chain otherwise.",
                four + "distributionDistance(1, 2, 0): 5; setLabel(1, 3): 0; setDiscount(0, 4): 1; moveWeight(0, 0, 1, 9): 9;"
                + " distributionDistance(1, 2, 0): 5; distributionDistance(2, 1, 0): 5");
        document.promise(19, "The kinds are: 0, the total variation: the sum over all states u of the absolute difference of the"
                + " weights to u, divided by 2;",
                four + "distributionDistance(1, 2, 0): 5; distributionDistance(0, 1, 0): 8; distributionDistance(0, 2, 0): 9;"
                + " distributionDistance(3, 3, 0): 0");
        document.promise(19, "1, the maximum over all states u of that absolute difference;",
                four + "distributionDistance(1, 2, 1): 4; distributionDistance(2, 1, 1): 4; distributionDistance(0, 1, 1): 8;"
                + " distributionDistance(0, 3, 1): 9; distributionDistance(2, 2, 1): 0");
        document.promise(19, "2, the cumulative distance: the sum over all states u but the last one of the absolute difference"
                + " of the sums of the weights to the states 0 to u;",
                four + "distributionDistance(1, 2, 2): 6; distributionDistance(2, 1, 2): 6; distributionDistance(0, 3, 2): 27;"
                + " distributionDistance(2, 2, 2): 0",
                "reset(6, 12): 2; distributionDistance(0, 5, 2): 60; distributionDistance(4, 5, 2): 12",
                "reset(1, 12): 2; distributionDistance(0, 0, 2): 0");
        document.promise(19, "3, the overlap: the sum over all states u of the smaller of the two weights to u.",
                four + "distributionDistance(1, 2, 3): 4; distributionDistance(0, 3, 3): 0; distributionDistance(1, 1, 3): 9",
                "reset(1, 12): 2; distributionDistance(0, 0, 3): 12");
        document.promise(19, "(The sum of kind 0 is always even.)",
                "read('3:0,3>0;0,1>0,1>1,1>2;0,2>1,1>2'): 3; distributionDistance(0, 1, 0): 2; distributionDistance(1, 2, 0): 1;"
                + " distributionDistance(0, 2, 0): 3");
    }

    private void distributionDistance() {
        document.promise(19, "- `first`: a state - `second`: a state",
                "reset(6, 12): 2; distributionDistance(0, 5, 0): 12; distributionDistance(5, 0, 1): 12;"
                + " distributionDistance(5, 5, 3): 12; distributionDistance(6, 0, 0): NO_SUCH_STATE;"
                + " distributionDistance(0, 6, 0): NO_SUCH_STATE");
        document.promise(19, "- `kind`: the kind, 0 to 3",
                "distributionDistance(0, 1, -1): BAD_ARGUMENT; distributionDistance(0, 1, 0): 1; distributionDistance(0, 1, 1): 1;"
                + " distributionDistance(0, 1, 2): 1; distributionDistance(0, 1, 3): 0; distributionDistance(0, 1, 4): BAD_ARGUMENT");
        document.promise(19, "Returns the distance as an integer number of weight units;",
                "read('12:0,6>0,6>1;0,11>0,1>1'): 2; distributionDistance(0, 1, 0): 5; distributionDistance(0, 1, 1): 5;"
                + " distributionDistance(0, 1, 2): 5; distributionDistance(0, 1, 3): 7");
        document.promise(19, "NO_SUCH_STATE (checked first);",
                "distributionDistance(2, 0, 4): NO_SUCH_STATE; distributionDistance(0, 2, -1): NO_SUCH_STATE;"
                + " distributionDistance(-1, 0, 4): NO_SUCH_STATE; distributionDistance(0, -1, 4): NO_SUCH_STATE;"
                + " distributionDistance(MIN, MAX, 0): NO_SUCH_STATE");
        document.promise(19, "BAD_ARGUMENT if the kind is out of range.",
                "distributionDistance(0, 0, 4): BAD_ARGUMENT; distributionDistance(0, 0, -1): BAD_ARGUMENT;"
                + " distributionDistance(0, 0, MIN): BAD_ARGUMENT; distributionDistance(0, 0, MAX): BAD_ARGUMENT");
    }
}
