/** The sentences before the promises: the description, its details and examples, and the constants' meaning. */
final class DescriptionEdges {
    private final Sentences document;

    DescriptionEdges(Sentences document) {
        this.document = document;
    }

    void run() {
        numberOfCalls();
        chain();
        discount();
        couplings();
        distances();
        bisimulation();
        edits();
        inputAndArrays();
        newCalculator();
        details();
        document.runExamples(3);
        document.description("Examples: each one begins with a new object; after each call stands its result.");
        document.description("The constants:");
        statesAndDepths();
        otherConstants();
        document.description("The constructor and the methods follow, a promise each: the signature, then what it does.");
    }

    private void numberOfCalls() {
        document.opening("An object is used for at most 512 calls after it has been made",
                "setLabel(0, 1): 0; setLabel(0, 0): 1; ".repeat(255) + "editCount(): 10; label(0): 0",
                "farthestPair(15): 1; ".repeat(511) + "states(): 2",
                "append(48, 1): 1; parse(): -1001; ".repeat(256));
    }

    private void chain() {
        document.description("Chain. The chain has n states, numbered 0 to n - 1, where n is 1 to 6.",
                "reset(1, 1): 2; states(): 1; label(0): 0; label(1): NO_SUCH_STATE; label(-1): NO_SUCH_STATE",
                "reset(6, 1): 2; states(): 6; label(5): 0; label(6): NO_SUCH_STATE; label(-1): NO_SUCH_STATE",
                "reset(0, 1): BAD_ARGUMENT; reset(7, 1): BAD_ARGUMENT; states(): 2");
        document.description("Each state has a label, 0 to 3.",
                "setLabel(0, 3): 0; label(0): 3; setLabel(0, 4): BAD_ARGUMENT; label(0): 3",
                "setLabel(1, 3): 0; setLabel(1, 0): 3; setLabel(1, -1): BAD_ARGUMENT; labels(): 0,0");
        document.description("The resolution D is 1 to 12.",
                "reset(2, 1): 2; resolution(): 1; reset(2, 0): BAD_ARGUMENT; resolution(): 1",
                "reset(2, 12): 2; resolution(): 12; reset(2, 13): BAD_ARGUMENT; resolution(): 12");
        document.description("For each state s and each state t there is a weight, an integer from 0 to D;"
                + " the weights from one state add up to D.", """
                reset(3, 12): 2; weights(): 12,0,0,0,12,0,0,0,12; moveWeight(0, 0, 1, 12): 12;
                weights(): 0,12,0,0,12,0,0,0,12; moveWeight(0, 1, 2, 5): 5; weights(): 0,7,5,0,12,0,0,0,12;
                moveWeight(0, 0, 1, 1): INSUFFICIENT_WEIGHT; weights(): 0,7,5,0,12,0,0,0,12
                """);
        document.description("The transition probability from s to t is the weight from s to t divided by D.", """
                read('4:0,1>0,3>1;1,4>1'): 2; reachWeight(0, 1, 1): 1; reachWeight(0, 2, 1): 3;
                reachWeight(0, 15, 1): 4; reachWeight(1, 1, 1): 0; reachWeight(1, 2, 1): 4
                """);
    }

    private void discount() {
        document.description("Discount. The discount is a fraction: numerator p and denominator r, with r from 1 to 4 and p"
                + " from 0 to r.",
                "setDiscount(0, 1): 1; setDiscount(1, 1): 1; setDiscount(0, 4): 1; setDiscount(4, 4): 1",
                "setDiscount(0, 0): BAD_ARGUMENT; setDiscount(0, 5): BAD_ARGUMENT; setDiscount(1, 1): 0",
                "setDiscount(-1, 4): BAD_ARGUMENT; setDiscount(5, 4): BAD_ARGUMENT; setDiscount(1, 1): 0");
        document.description("It need not be in lowest terms.", """
                read('4:0,3>1,1>2;1,4>1;0,2>0,2>1'): 3; setDiscount(1, 2): 1; distance(3, 0, 2): 9/64;
                maximumDepth(): 16; setDiscount(2, 4): 1; distance(3, 0, 2): 9/64; maximumDepth(): 12;
                setDiscount(2, 4): 0; editCount(): 2
                """);
    }

    private void couplings() {
        document.description("Couplings. A coupling of two states s and t is a matrix of integers of at least 0, with n rows"
                + " and n columns, whose row i adds up to the weight from s to i, and whose column j adds up to the"
                + " weight from t to j.", """
                read('4:0,3>0,1>1;0,4>1'): 2; wholeCoupling(0, 1): 0,3,0,1; wholeCoupling(0, 10): 0,0,3,1;
                wholeCoupling(1, 1): 0,3,0,1; wholeCoupling(1, 10): 0,0,3,1; wholeCoupling(0, 11): 0,0,0,4
                """,
                "reset(1, 12): 2; wholeCoupling(0, 0): 12; wholeCoupling(13, 0): 12");
        document.description("The cost of a coupling, for given distances d, is the sum over all i and j of the entry in"
                + " row i and column j times d(i, j).", """
                read('5:0,2>2,3>3;0,5>4;1,5>2;2,5>3;1,5>4'): 5; wholeCoupling(1, 1): \
                0,0,0,0,0,0,0,0,0,0,0,0,0,0,2,0,0,0,0,3,0,0,0,0,0; distance(2, 0, 1): 3/5
                """);
        document.description("An optimal coupling has the minimum cost.", """
                read('4:0,2>0,2>2;0,2>0,2>2;1,4>2'): 3; wholeCoupling(1, 1): 2,0,0,0,0,0,0,0,2;
                distance(2, 0, 1): 0/1; distance(9, 0, 1): 0/1
                """,
                // all the couplings of these chains have been weighed by another program
                "read('3:1,3>2;2,3>2;1,1>1,2>2;1,1>0,2>3'): 4; wholeCoupling(3, 23): 0,0,0,0,0,0,0,1,1,0,0,1,0,0,0,0;"
                + " distance(4, 2, 3): 17/27; wholeCoupling(3, 32): 0,0,1,0,0,0,0,0,0,0,0,0,0,1,1,0; distance(4, 3, 2): 17/27",
                "read('3:0,1>0,2>3;0,2>2,1>3;1,3>3;0,2>0,1>1'): 4; wholeCoupling(3, 3): 1,0,0,0,0,0,0,0,0,0,0,0,1,1,0,0;"
                + " distance(4, 0, 3): 8/27");
        document.description("There can be several; the canonical optimal coupling is the one whose entries, read row by"
                + " row, form the lexicographically smallest sequence.",
                "read('4:0,2>0,2>1;0,2>0,2>1'): 2; wholeCoupling(0, 1): 0,2,2,0; wholeCoupling(5, 1): 0,2,2,0",
                "read('3:0,1>0,1>1,1>2;0,1>0,1>1,1>2;1,3>2'): 3; wholeCoupling(0, 1): 0,0,1,0,1,0,1,0,0;"
                + " wholeCoupling(1, 1): 0,1,0,1,0,0,0,0,1; wholeCoupling(1, 0): 0,1,0,1,0,0,0,0,1",
                "read('6:0,3>0,3>1;1,1>0,2>1,3>2;2,6>0'): 3; wholeCoupling(0, 1): 0,0,3,1,2,0,0,0,0;"
                + " wholeCoupling(1, 1): 1,0,2,0,2,1,0,0,0; wholeCoupling(1, 10): 1,0,0,0,2,0,2,1,0",
                // all the couplings of these chains have been weighed by another program
                "read('2:0,1>0,1>2;1,1>0,1>1;0,2>1'): 3; wholeCoupling(1, 1): 0,1,0,0,0,0,1,0,0",
                "read('2:0,2>1;1,1>0,1>3;0,1>1,1>2;1,2>0'): 4; wholeCoupling(1, 21): 0,0,0,0,0,0,0,1,1,0,0,0,0,0,0,0",
                "read('2:1,1>1,1>2;2,1>0,1>2;2,1>1,1>3;1,2>2'): 4; wholeCoupling(2, 0): 0,0,0,0,0,0,1,0,0,1,0,0,0,0,0,0",
                "read('5:1,2>1,2>2,1>3;0,2>0,2>2,1>3;0,1>0,1>1,3>3;1,2>0,3>3'): 4;"
                + " wholeCoupling(1, 1): 0,0,0,0,0,0,1,1,1,0,1,0,1,0,0,0");
    }

    private void distances() {
        document.description("Distances. The distances of depth 0 are 0 for all pairs of states.",
                "setLabel(1, 1): 0; distance(0, 0, 1): 0/1; distance(0, 0, 0): 0/1; distance(0, 1, 0): 0/1",
                "read('1:0,1>0;1,1>0;2,1>0;3,1>0'): 4; compareDistances(0, 1, 33): 1; farthestPair(0): 1");
        document.description("The distance of depth k + 1 of two states with different labels is 1.", """
                setLabel(1, 3): 0; setDiscount(0, 4): 1; distance(1, 0, 1): 1/1; distance(15, 1, 0): 1/1;
                setDiscount(1, 2): 1; distance(1, 1, 0): 1/1; distance(15, 0, 1): 1/1
                """);
        document.description("The distance of depth k + 1 of two states s and t with equal labels is p / (r D) times the"
                + " minimum cost of a coupling of s and t for the distances of depth k.",
                // 1 - (9/10)^(k - 1) at depth k
                "read('10:0,9>0,1>1;1,10>1;0,10>2'): 3; distance(1, 0, 2): 0/1; distance(2, 0, 2): 1/10;"
                + " distance(3, 0, 2): 19/100; distance(15, 0, 2): 77123207545039/100000000000000",
                // d becomes 3 (1 + 9 d) / 40
                "read('10:0,9>0,1>1;1,10>1;0,10>2'): 3; setDiscount(3, 4): 1; distance(1, 0, 2): 0/1;"
                + " distance(2, 0, 2): 3/40; distance(3, 2, 0): 201/1600; distance(3, 2, 2): 0/1",
                "read('2:0,2>1;1,2>1;0,2>2'): 3; setDiscount(0, 3): 1; distance(2, 0, 2): 0/1; distance(2, 0, 1): 1/1");
        document.description("A depth is supported if (r D)^depth is at most 1000000000000000 (10^15); a query of an"
                + " unsupported depth returns DEPTH_UNSUPPORTED.",
                "reset(2, 10): 2; farthestPair(15): 1; coupling(15, 1, 0, 1): 10; compareDistances(15, 0, 1): 1",
                "reset(2, 5): 2; setDiscount(1, 2): 1; farthestPair(15): 1; coupling(15, 1, 0, 1): 5",
                "reset(2, 11): 2; farthestPair(15): DEPTH_UNSUPPORTED; coupling(15, 1, 0, 1): DEPTH_UNSUPPORTED;"
                + " compareDistances(15, 0, 1): DEPTH_UNSUPPORTED; farthestPair(14): 1; coupling(14, 1, 0, 1): 11;"
                + " compareDistances(14, 0, 1): 1",
                "reset(2, 12): 2; setDiscount(0, 4): 1; farthestPair(9): DEPTH_UNSUPPORTED; farthestPair(8): 1;"
                + " farthestPair(0): 1");
    }

    private void bisimulation() {
        document.description("Bisimulation. A partition of the states into classes is a bisimulation if all states of a"
                + " class have equal labels and, for any two classes A and B, all states of A have the same sum of"
                + " weights to the states of B.",
                "read('2:0,1>1,1>2;1,2>0;1,1>0,1>3;0,2>2'): 4; classes(): 0,1,1,0",
                "read('2:0,2>1;1,2>0;1,1>0,1>2;0,2>2'): 4; classes(): 0,1,2,3",
                "setLabel(1, 1): 0; classes(): 0,1");
        document.description("There is exactly one coarsest bisimulation.",
                "classes(): 0,0; bisimulationClassCount(): 1",
                "reset(6, 12): 2; moveWeight(0, 0, 5, 7): 7; moveWeight(3, 3, 1, 12): 12; classes(): 0,0,0,0,0,0");
        document.description("Its classes are numbered from 0 by their lowest states, so that state 0 is in class 0.",
                "read('1:3,1>0;0,1>1;3,1>0;2,1>3;0,1>4;1,1>5'): 6; classes(): 0,1,0,2,1,3",
                "reset(1, 1): 2; classes(): 0");
    }

    private void edits() {
        document.description("Edits. Each successful call of setLabel, moveWeight, setDiscount or swapStates that changes"
                + " the chain or the discount is recorded as one edit.",
                "setLabel(0, 1): 0; editCount(): 1; moveWeight(0, 0, 1, 1): 1; editCount(): 2;"
                + " setDiscount(0, 1): 1; editCount(): 3; swapStates(0, 1): 1; editCount(): 4",
                "setLabel(0, 0): 0; moveWeight(0, 0, 1, 0): 0; moveWeight(0, 0, 0, 1): 1; setDiscount(1, 1): 0;"
                + " swapStates(0, 1): 0; swapStates(1, 1): 0; editCount(): 0",
                "setLabel(0, 4): BAD_ARGUMENT; moveWeight(0, 1, 0, 1): INSUFFICIENT_WEIGHT;"
                + " setDiscount(2, 1): BAD_ARGUMENT; swapStates(0, 2): NO_SUCH_STATE; editCount(): 0");
        document.description("At most the last 10 edits are remembered.",
                "setLabel(1, 3): 0; " + "setLabel(0, 1): 0; setLabel(0, 0): 1; ".repeat(5)
                + "editCount(): 10; undo(): 9; label(0): 1; undo(): 8; undo(): 7; undo(): 6; undo(): 5; undo(): 4;"
                + " undo(): 3; undo(): 2; undo(): 1; undo(): 0; undo(): NOTHING_TO_UNDO; labels(): 0,3");
        document.description("reset, parse, minimize and restore forget all edits.",
                "setLabel(0, 1): 0; reset(2, 1): 2; editCount(): 0; undo(): NOTHING_TO_UNDO; label(0): 0",
                "setLabel(0, 1): 0; read('1:2,1>0'): 1; editCount(): 0; undo(): NOTHING_TO_UNDO; label(0): 2",
                "setLabel(0, 1): 0; minimize(): 2; editCount(): 0; undo(): NOTHING_TO_UNDO; label(0): 1",
                "snapshot(): 2; setLabel(0, 1): 0; restore(): 2; editCount(): 0; undo(): NOTHING_TO_UNDO; label(0): 0");
    }

    private void inputAndArrays() {
        String full = "append(0, 4): 4; append(2139062143, 4): 8; ";
        for (int held = 12; held <= 80; held += 4) {
            full += "append(808464432, 4): " + held + "; ";
        }
        document.description("Input buffer. The input buffer holds up to 80 bytes, each 0 to 127.",
                full + "append(48, 1): BUFFER_FULL; clearInput(): 80",
                "append(127, 1): 1; append(128, 1): BAD_ARGUMENT; append(255, 1): BAD_ARGUMENT; clearInput(): 1");
        document.description("Its content is consumed, that is removed, by parse and sequenceWeight, even if they return an"
                + " error.",
                "read('1:0,1>0'): 1; clearInput(): 0",
                "read('1:0,1>1'): INCONSISTENT; clearInput(): 0",
                "read('1;'): -1001; clearInput(): 0",
                "weighed(0, '00'): 1; clearInput(): 0",
                "weighed(0, '0:'): NO_VALUE; clearInput(): 0",
                full + "parse(): -1000; clearInput(): 0; typed('1:0,1>0'): 7; parse(): 1",
                full + "sequenceWeight(0): NO_VALUE; clearInput(): 0; typed('00'): 2; sequenceWeight(0): 1");
        document.description("Arrays. There are four array slots, numbered 0 to 3.",
                "allocate(0, 0, 1): 1; allocate(1, 0, 1): 1; allocate(2, 0, 1): 1; allocate(3, 0, 1): 1;"
                + " putElement(0, 0, 5): 1; putElement(3, 0, 6): 1; elements(0): 5; elements(1): 0; elements(3): 6;"
                + " allocate(4, 0, 1): BAD_ARGUMENT; allocate(-1, 0, 1): BAD_ARGUMENT");
        document.description("A slot is empty, or holds an array of bytes, chars, ints or longs with at most 40 elements.",
                "release(0): 0; allocate(0, 0, 40): 40; putElement(0, 39, 128): 1; element(0, 39): -128;"
                + " allocate(0, 1, 40): 40; putElement(0, 39, -1): 1; element(0, 39): 65535; allocate(0, 2, 40): 40;"
                + " putElement(0, 39, 2147483648): 1; element(0, 39): -2147483648; allocate(0, 3, 40): 40;"
                + " putElement(0, 39, MAX): 1; element(0, 39): 9223372036854775807; allocate(0, 3, 41): BAD_ARGUMENT;"
                + " element(0, 39): 9223372036854775807; release(0): 1; release(0): 0");
        document.description("All slots are initially empty.",
                "release(0): 0; release(1): 0; release(2): 0; release(3): 0",
                "putElement(0, 0, 0): EMPTY_SLOT; element(1, 0): NO_VALUE; compareWithArray(2): EMPTY_SLOT;"
                + " copyElements(3, 0, 3, 0, 0): EMPTY_SLOT");
    }

    private void newCalculator() {
        document.description("A new calculator has 2 states, resolution 1 and discount 1 / 1.",
                "states(): 2; resolution(): 1; setDiscount(1, 1): 0");
        document.description("Both states have label 0 and weight 1 to themselves.",
                "labels(): 0,0; weights(): 1,0,0,1");
        document.description("The input buffer is empty, no edits are remembered, and there is no snapshot.",
                "clearInput(): 0; parse(): -1000",
                "editCount(): 0; undo(): NOTHING_TO_UNDO",
                "restore(): NOTHING_TO_UNDO");
    }

    private void details() {
        document.description("Details. The greatest supported depth can be beyond the depths of the other methods.",
                "maximumDepth(): 99; farthestPair(15): 1; farthestPair(16): BAD_ARGUMENT; farthestPair(99): BAD_ARGUMENT",
                "setDiscount(1, 2): 1; maximumDepth(): 49; distance(15, 0, 1): 0/1; distanceNumerator(16, 0, 1): NO_VALUE;"
                + " distanceDenominator(16, 0, 1): NO_VALUE; compareDistances(16, 0, 1): BAD_ARGUMENT;"
                + " coupling(16, 0, 0, 0): BAD_ARGUMENT; coupling(49, 0, 0, 0): BAD_ARGUMENT");
        document.description("Of edits that are forgotten because there are too many, none comes back when others are"
                + " undone.",
                "setLabel(1, 1): 0; setLabel(1, 2): 1; " + "setLabel(0, 1): 0; setLabel(0, 0): 1; ".repeat(5)
                + "undo(): 9; undo(): 8; undo(): 7; editCount(): 7; setLabel(0, 3): 1; editCount(): 8; undo(): 7;"
                + " undo(): 6; undo(): 5; undo(): 4; undo(): 3; undo(): 2; undo(): 1; undo(): 0;"
                + " undo(): NOTHING_TO_UNDO; editCount(): 0; labels(): 0,2");
        document.description("Only a successful reset, parse, minimization or restore forgets edits, but a minimization also"
                + " if the chain is its quotient already.",
                "setLabel(0, 1): 0; reset(7, 1): BAD_ARGUMENT; reset(1, 13): BAD_ARGUMENT; editCount(): 1; undo(): 0;"
                + " label(0): 0",
                "setLabel(0, 1): 0; read('1:0,1>1'): INCONSISTENT; read('1:0'): -1003; editCount(): 1; undo(): 0;"
                + " label(0): 0",
                "setLabel(0, 1): 0; restore(): NOTHING_TO_UNDO; editCount(): 1; undo(): 0; label(0): 0",
                "setLabel(0, 1): 0; snapshot(): 2; clearInput(): 0; bisimulationClassCount(): 2; weighed(0, '11'): 1;"
                + " allocate(0, 0, 4): 4; release(0): 1; distance(15, 0, 1): 1/1; editCount(): 1; undo(): 0; label(0): 0",
                "setLabel(0, 1): 0; bisimulationClassCount(): 2; minimize(): 2; labels(): 1,0; weights(): 1,0,0,1;"
                + " editCount(): 0; undo(): NOTHING_TO_UNDO; labels(): 1,0");
        document.description("If all distances are alike, the first pair is the farthest one.",
                "farthestPair(0): 1; farthestPair(15): 1",
                "reset(6, 12): 2; farthestPair(13): 1",
                "read('1:0,1>0;1,1>1;2,1>2;3,1>3'): 4; farthestPair(7): 1");
        document.description("The buffer of a sequence is consumed also if the state does not exist.",
                "typed('00'): 2; sequenceWeight(2): NO_VALUE; clearInput(): 0",
                "typed('00'): 2; sequenceWeight(-1): NO_VALUE; sequenceWeight(0): NO_VALUE; weighed(0, '0'): 1");
    }

    private void statesAndDepths() {
        document.description("- `BAD_ARGUMENT = -1`: An argument is out of range, and no more specific error code applies.",
                "reset(0, 0): -1; setLabel(0, 4): -1; append(0, 5): -1; release(4): -1",
                "setLabel(2, 4): NO_SUCH_STATE; allocate(0, 0, -1): NEGATIVE_SIZE; putElement(0, 0, 0): EMPTY_SLOT");
        document.description("- `NO_SUCH_STATE = -2`: A state is not from 0 to n - 1.",
                "label(-1): -2; label(0): 0; label(1): 0; label(2): -2; label(MIN): -2; label(MAX): -2",
                "reset(6, 1): 2; label(5): 0; label(6): -2; reset(1, 1): 6; label(0): 0; label(1): -2");
        document.description("- `INSUFFICIENT_WEIGHT = -3`: The weight is smaller than the amount that would be moved.",
                "moveWeight(0, 0, 1, 2): -3; moveWeight(0, 1, 0, 1): -3; weights(): 1,0,0,1; moveWeight(0, 0, 1, 1): 1");
        document.description("- `DEPTH_UNSUPPORTED = -4`: The depth is not supported.",
                "reset(2, 12): 2; farthestPair(13): 1; farthestPair(14): -4");
        document.description("- `NOTHING_TO_UNDO = -5`: There is no edit to undo, or no snapshot to restore.",
                "undo(): -5; restore(): -5; states(): 2; snapshot(): 2; undo(): -5; restore(): 2",
                "setLabel(0, 1): 0; restore(): -5; undo(): 0; undo(): -5");
    }

    private void otherConstants() {
        document.description("- `BUFFER_FULL = -6`: The input buffer has no room.",
                "typed('" + "0".repeat(80) + "'): 80; append(48, 1): -6; append(808464432, 4): -6; clearInput(): 80;"
                + " append(48, 1): 1");
        document.description("- `NONE = -7`: There is no such element.",
                "reset(1, 1): 2; farthestPair(0): -7; allocate(0, 0, 1): 1; putElement(0, 0, 1): 1;"
                + " compareWithArray(0): -7");
        document.description("- `INCONSISTENT = -8`: The text is well-formed but describes no chain.",
                "read('2:0,1>0'): -8; states(): 2; resolution(): 1");
        document.description("- `EMPTY_SLOT = -11`: The array slot is empty.",
                "putElement(3, 0, 1): -11; compareWithArray(3): -11; copyElements(3, 0, 3, 0, 0): -11");
        document.description("- `WRONG_TYPE = -12`: The array has another element type than required.",
                "allocate(0, 2, 4): 4; compareWithArray(0): -12; allocate(1, 3, 4): 4; copyElements(0, 0, 1, 0, 1): -12");
        document.description("- `INDEX_OUT_OF_RANGE = -13`: An array index is out of range.",
                "allocate(0, 2, 4): 4; putElement(0, 4, 1): -13; putElement(0, -1, 1): -13; putElement(0, 3, 1): 1;"
                + " elements(0): 0,0,0,1");
        document.description("- `NEGATIVE_SIZE = -14`: An array size is negative.",
                "allocate(0, 2, -1): -14; release(0): 0; allocate(0, 2, 0): 0; release(0): 1");
        document.description("- `NO_VALUE = Long.MIN_VALUE`: Returned by methods of type long if an argument is invalid.",
                "distanceNumerator(0, 2, 0): -9223372036854775808; distanceDenominator(0, 2, 0): -9223372036854775808;"
                + " reachWeight(2, 0, 0): -9223372036854775808; firstReachWeight(2, 0, 0): -9223372036854775808;"
                + " weighed(2, '0'): -9223372036854775808; element(0, 0): -9223372036854775808");
    }
}
