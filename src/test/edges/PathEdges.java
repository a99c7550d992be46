/** Promises 20 to 27: bisimulation and paths. */
final class PathEdges {
    private static final String THREE = "read('4:0,3>1,1>2;1,4>1;0,2>0,2>1'): 3; ";

    /** State 0 goes to any of the six states, and the others stay: one step from 0 shows the draw. */
    private static final String DRAWS = "read('6:0,1>0,1>1,1>2,1>3,1>4,1>5;0,6>1;0,6>2;0,6>3;0,6>4;0,6>5'): 6; ";

    private static final String SAMPLED = "read('7:0,1>0,2>1,4>2;1,3>0,3>1,1>2;1,5>0,2>2'): 3; ";

    /** The labels 0 to 3, each on its own state, which stays. */
    private static final String LABELS = "read('5:0,5>0;1,5>1;2,5>2;3,5>3'): 4; ";

    private final Sentences document;

    PathEdges(Sentences document) {
        this.document = document;
    }

    void run() {
        bisimulationClass();
        bisimulationClassCount();
        minimize();
        reachWeight();
        firstReachWeight();
        sequences();
        sequenceWeight();
        sample();
        sampleArguments();
        sampledVisits();
        sampledVisitsRefused();
    }

    private void bisimulationClass() {
        document.promise(20, "Returns the class of a state in the coarsest bisimulation.",
                "read('1:1,1>0;0,1>0;0,1>1;0,1>2;0,1>1;0,1>0'): 6; classes(): 0,1,2,3,2,1",
                "read('1:0,1>1;0,1>2;0,1>3;0,1>4;0,1>5;1,1>5'): 6; classes(): 0,1,2,3,4,5",
                "read('3:0,1>0,2>2;0,2>0,1>2;1,3>2'): 3; classes(): 0,1,2; moveWeight(1, 0, 2, 1): 2; classes(): 0,0,1;"
                + " undo(): 0; classes(): 0,1,2; setDiscount(0, 1): 1; classes(): 0,1,2");
        document.promise(20, "- `state`: the state",
                "reset(6, 1): 2; bisimulationClass(0): 0; bisimulationClass(5): 0; setLabel(5, 1): 0; bisimulationClass(5): 1",
                "reset(1, 1): 2; bisimulationClass(0): 0");
        document.promise(20, "Returns the class;",
                "bisimulationClass(1): 0; setLabel(0, 1): 0; bisimulationClass(0): 0; bisimulationClass(1): 1");
        document.promise(20, "NO_SUCH_STATE.",
                "bisimulationClass(2): NO_SUCH_STATE; bisimulationClass(-1): NO_SUCH_STATE; bisimulationClass(MIN): NO_SUCH_STATE;"
                + " bisimulationClass(MAX): NO_SUCH_STATE; minimize(): 1; bisimulationClass(1): NO_SUCH_STATE",
                "reset(6, 1): 2; bisimulationClass(6): NO_SUCH_STATE");
    }

    private void bisimulationClassCount() {
        document.promise(21, "Returns the number of classes of the coarsest bisimulation.",
                "bisimulationClassCount(): 1; setLabel(0, 1): 0; bisimulationClassCount(): 2; undo(): 0; bisimulationClassCount(): 1",
                "read('1:1,1>0;0,1>0;0,1>1;0,1>2;0,1>1;0,1>0'): 6; bisimulationClassCount(): 4");
        document.promise(21, "Returns the number of classes.",
                "reset(1, 1): 2; bisimulationClassCount(): 1; reset(6, 12): 1; bisimulationClassCount(): 1",
                "read('1:0,1>1;0,1>2;0,1>3;0,1>4;0,1>5;1,1>5'): 6; bisimulationClassCount(): 6");
    }

    private void minimize() {
        document.promise(22, "Replaces the chain by its quotient by the coarsest bisimulation: the states are the classes, a class"
                + " has the label of its states, and the weight from a class A to a class B is the sum of the weights from any"
                + " state of A to the states of B.",
                "read('5:1,2>1,1>2,2>3;3,4>0,1>4;3,5>4;2,5>3;1,3>1,2>3'): 5; setDiscount(1, 2): 1; minimize(): 3; states(): 3;"
                + " resolution(): 5; labels(): 1,3,2; weights(): 0,3,2,5,0,0,0,0,5; label(3): NO_SUCH_STATE;"
                + " weight(0, 3): NO_SUCH_STATE; setDiscount(1, 2): 0; editCount(): 0; undo(): NOTHING_TO_UNDO",
                // the states of a class may have other weights to its members
                "read('12:2,5>0,7>1;2,12>0;2,1>0,1>1,10>2'): 3; minimize(): 1; labels(): 2; weights(): 12; farthestPair(13): NONE",
                // the least chain stays
                "reset(1, 7): 2; setLabel(0, 3): 0; minimize(): 1; labels(): 3; weights(): 7; editCount(): 0");
        document.promise(22, "Returns the new number of states.",
                "minimize(): 1; minimize(): 1",
                "reset(6, 3): 2; minimize(): 1; weights(): 3",
                "read('1:0,1>1;0,1>2;0,1>3;0,1>4;0,1>5;1,1>5'): 6; setLabel(5, 2): 1; minimize(): 6; labels(): 0,0,0,0,0,2;"
                + " weight(0, 1): 1; weight(5, 5): 1; editCount(): 0; undo(): NOTHING_TO_UNDO",
                // the quotient's own number of classes is its number of states
                "read('1:1,1>0;0,1>0;0,1>1;0,1>2;0,1>1;0,1>0'): 6; minimize(): 4; bisimulationClassCount(): 4; minimize(): 4;"
                + " labels(): 1,0,0,0; weights(): 1,0,0,0,1,0,0,0,0,1,0,0,0,0,1,0");
    }

    private void reachWeight() {
        document.promise(23, "Counts weighted paths: the sum, over all paths of a given number of transitions from a state to a"
                + " state with a label in a set, of the product of the weights along the path.",
                THREE + "reachWeight(0, 2, 1): 3; reachWeight(0, 2, 2): 14; reachWeight(0, 1, 2): 2; reachWeight(2, 2, 2): 14;"
                + " reachWeight(1, 1, 9): 0");
        document.promise(23, "Divided by D^steps it is the probability to be in such a state after these steps.",
                THREE + "reachWeight(0, 3, 3): 64; reachWeight(1, 2, 12): 16777216",
                "reset(6, 12): 2; reachWeight(5, 1, 12): 8916100448256; reachWeight(5, 1, 0): 1; setDiscount(0, 4): 1;"
                + " reachWeight(5, 1, 12): 8916100448256");
        document.promise(23, "- `state`: the start state",
                "reset(6, 2): 2; setLabel(5, 3): 0; reachWeight(5, 8, 1): 2; reachWeight(0, 8, 1): 0; reachWeight(0, 1, 1): 2");
        document.promise(23, "- `labels`: the set of labels as bits, 0 to 15: the label k is in the set if bit k is 1",
                LABELS + "reachWeight(0, 1, 1): 5; reachWeight(0, 14, 1): 0; reachWeight(1, 2, 1): 5; reachWeight(1, 13, 1): 0;"
                + " reachWeight(2, 4, 1): 5; reachWeight(2, 11, 1): 0; reachWeight(3, 8, 1): 5; reachWeight(3, 7, 1): 0;"
                + " reachWeight(3, 15, 1): 5; reachWeight(3, 0, 1): 0; reachWeight(0, -1, 1): NO_VALUE; reachWeight(0, 16, 1): NO_VALUE");
        document.promise(23, "- `steps`: the number of transitions, 0 to 12",
                "reset(2, 3): 2; reachWeight(0, 1, -1): NO_VALUE; reachWeight(0, 1, 0): 1; reachWeight(0, 2, 0): 0;"
                + " reachWeight(0, 1, 12): 531441; reachWeight(0, 1, 13): NO_VALUE");
        document.promise(23, "Returns the sum;",
                "read('2:1,1>0,1>1;1,1>0,1>1'): 2; reachWeight(0, 2, 10): 1024; reachWeight(0, 13, 10): 0");
        document.promise(23, "NO_VALUE if the state does not exist or another argument is out of range.",
                "reachWeight(2, 1, 1): NO_VALUE; reachWeight(-1, 1, 1): NO_VALUE; reachWeight(MIN, 1, 1): NO_VALUE;"
                + " reachWeight(MAX, 1, 1): NO_VALUE",
                "reachWeight(0, 16, 0): NO_VALUE; reachWeight(0, -1, 0): NO_VALUE; reachWeight(0, MIN, 0): NO_VALUE;"
                + " reachWeight(0, MAX, 0): NO_VALUE; reachWeight(0, 1, MIN): NO_VALUE; reachWeight(0, 1, MAX): NO_VALUE;"
                + " reachWeight(2, 16, 13): NO_VALUE; reachWeight(0, 15, 0): 1");
    }

    private void firstReachWeight() {
        String hit = "read('4:0,3>1,1>2;1,4>2;0,2>0,2>1'): 3; ";
        document.promise(24, "Counts weighted paths that avoid a set of labels until the last state: the sum, over all paths of at"
                + " most a given number of transitions from a state whose last state, and no earlier state, has a label in a set,"
                + " of the product of the weights along the path times D to the power of the number of transitions that the path"
                + " is shorter than the limit.",
                hit + "firstReachWeight(0, 2, 1): 3; firstReachWeight(0, 2, 2): 14; firstReachWeight(2, 2, 1): 2;"
                + " firstReachWeight(2, 2, 2): 14; firstReachWeight(2, 2, 3): 60",
                // never reached
                "setLabel(1, 1): 0; firstReachWeight(0, 2, 12): 0");
        document.promise(24, "Divided by D^limit it is the probability to reach such a state within the limit.",
                "read('12:0,11>0,1>1;1,12>0'): 2; firstReachWeight(0, 2, 1): 1; firstReachWeight(0, 2, 2): 23;"
                + " firstReachWeight(0, 2, 12): 5777672071535",
                "reset(6, 12): 2; firstReachWeight(0, 1, 12): 8916100448256");
        document.promise(24, "- `state`: the start state; if its own label is in the set, the only such path has no transitions",
                hit + "firstReachWeight(1, 2, 0): 1; firstReachWeight(1, 2, 1): 4; firstReachWeight(1, 2, 12): 16777216;"
                + " firstReachWeight(0, 3, 12): 16777216; firstReachWeight(0, 3, 0): 1; firstReachWeight(0, 1, 2): 16");
        document.promise(24, "- `labels`: the set of labels as bits, 0 to 15",
                LABELS + "firstReachWeight(0, 1, 1): 5; firstReachWeight(0, 14, 1): 0; firstReachWeight(1, 2, 1): 5;"
                + " firstReachWeight(2, 4, 1): 5; firstReachWeight(3, 8, 1): 5; firstReachWeight(3, 7, 1): 0;"
                + " firstReachWeight(3, 15, 1): 5; firstReachWeight(3, 0, 1): 0; firstReachWeight(0, -1, 1): NO_VALUE;"
                + " firstReachWeight(0, 16, 1): NO_VALUE");
        document.promise(24, "- `limit`: the maximum number of transitions, 0 to 12",
                hit + "firstReachWeight(0, 2, -1): NO_VALUE; firstReachWeight(0, 2, 0): 0; firstReachWeight(1, 2, 12): 16777216;"
                + " firstReachWeight(1, 2, 13): NO_VALUE");
        document.promise(24, "Returns the sum;",
                "read('2:0,1>1,1>2;0,2>3;0,1>3,1>0;3,2>0'): 4; firstReachWeight(0, 8, 1): 0; firstReachWeight(0, 8, 2): 3;"
                + " firstReachWeight(0, 8, 3): 6");
        document.promise(24, "NO_VALUE if the state does not exist or another argument is out of range.",
                "firstReachWeight(2, 1, 1): NO_VALUE; firstReachWeight(-1, 1, 1): NO_VALUE; firstReachWeight(MIN, 1, 1): NO_VALUE;"
                + " firstReachWeight(MAX, 1, 1): NO_VALUE",
                "firstReachWeight(0, 16, 0): NO_VALUE; firstReachWeight(0, -1, 0): NO_VALUE; firstReachWeight(0, MIN, 0): NO_VALUE;"
                + " firstReachWeight(0, MAX, 0): NO_VALUE; firstReachWeight(0, 1, MIN): NO_VALUE;"
                + " firstReachWeight(0, 1, MAX): NO_VALUE; firstReachWeight(2, 16, 13): NO_VALUE; firstReachWeight(0, 15, 0): 1");
    }

    private void sequences() {
        document.promise(25, "Counts weighted paths with a given label sequence, which is the content of the input buffer: 1 to 13"
                + " digits from 0 to 3.",
                THREE + "weighed(1, '1'): 1; weighed(1, '1111111111111'): 16777216; weighed(1, '11111111111111'): NO_VALUE;"
                + " sequenceWeight(1): NO_VALUE",
                LABELS + "weighed(0, '00'): 5; weighed(1, '11'): 5; weighed(2, '22'): 5; weighed(3, '33'): 5;"
                + " weighed(3, '34'): NO_VALUE; weighed(3, '43'): NO_VALUE; weighed(0, '0/'): NO_VALUE; weighed(0, '/0'): NO_VALUE;"
                + " weighed(0, '9'): NO_VALUE; weighed(0, '0 0'): NO_VALUE; weighed(0, '0,0'): NO_VALUE",
                "append(0, 1): 1; sequenceWeight(0): NO_VALUE; append(127, 1): 1; sequenceWeight(0): NO_VALUE; append(3, 1): 1;"
                + " sequenceWeight(0): NO_VALUE; append(48, 1): 1; sequenceWeight(0): 1",
                "reset(2, 12): 2; weighed(0, '0000000000000'): 8916100448256",
                "typed('" + "0".repeat(80) + "'): 80; sequenceWeight(0): NO_VALUE; clearInput(): 0");
        document.promise(25, "The first digit is the label of the start state, and each following digit the label of the next state.",
                THREE + "weighed(0, '0'): 1; weighed(0, '1'): 0; weighed(0, '01'): 3; weighed(0, '00'): 1; weighed(0, '001'): 2;"
                + " weighed(0, '000'): 2; weighed(0, '011'): 12; weighed(0, '10'): 0; weighed(0, '11'): 0; weighed(0, '03'): 0;"
                + " weighed(2, '0011'): 24");
    }

    private void sequenceWeight() {
        document.promise(25, "- `state`: the start state",
                THREE + "weighed(2, '01'): 2; weighed(1, '01'): 0; weighed(3, '01'): NO_VALUE; weighed(-1, '01'): NO_VALUE",
                "reset(6, 3): 2; weighed(5, '00'): 3; weighed(6, '00'): NO_VALUE");
        document.promise(25, "Returns the sum, over all such paths, of the products of the weights along the path (1 for a path"
                + " without transitions);",
                "read('4:0,1>0,1>1,2>2;1,4>2;1,4>0'): 3; weighed(0, '0'): 1; weighed(1, '1'): 1; weighed(1, '0'): 0;"
                + " weighed(0, '01'): 3; weighed(0, '011'): 4; weighed(0, '010'): 8; weighed(0, '001'): 3; weighed(0, '0110'): 16");
        document.promise(25, "NO_VALUE if the state does not exist or the input buffer does not hold a label sequence.",
                "typed('0'): 1; sequenceWeight(2): NO_VALUE; clearInput(): 0; typed('0'): 1; sequenceWeight(MIN): NO_VALUE;"
                + " clearInput(): 0; typed('0'): 1; sequenceWeight(MAX): NO_VALUE; clearInput(): 0",
                "sequenceWeight(0): NO_VALUE; clearInput(): 0; weighed(0, 'a'): NO_VALUE; clearInput(): 0; states(): 2;"
                + " weights(): 1,0,0,1",
                "typed('00'): 2; clearInput(): 2; sequenceWeight(0): NO_VALUE");
    }

    private void sample() {
        document.promise(26, "Samples a path with a linear congruential generator.",
                SAMPLED + "sample(1, 42, 1): 0; sample(1, 42, 2): 2; sample(1, 42, 3): 0; sample(1, 42, 10): 2;"
                + " sample(1, 42, 999): 2; sample(1, -42, 1000): 0; sample(1, 0, 999): 0; sample(1, 0, 1000): 1");
        document.promise(26, "For each transition the seed x becomes x * 1103515245 + 12345, as a Java int (with overflow).",
                DRAWS + "sample(0, 0, 1): 0; sample(0, 1, 1): 2; sample(0, 2, 1): 4; sample(0, MAX, 1): 5; sample(0, MIN, 1): 2");
        document.promise(26, "The draw is (x >>> 16) % D.",
                // of 2 and -1 the seed becomes negative
                DRAWS + "sample(0, 2, 1): 4; sample(0, -1, 1): 1",
                "setLabel(1, 1): 0; sample(0, 2, 1000): 0; sample(1, -1, 1000): 1");
        document.promise(26, "The next state is the lowest state u for which the sum of the weights from the current state to the"
                + " states 0 to u is larger than the draw.",
                // the draws are 0, 1, 2, 2 and 5; the sums 0, 2, 2 and 6
                "read('6:0,2>1,4>3;0,6>1;0,6>2;0,6>3'): 4; sample(0, 0, 1): 1; sample(0, -1, 1): 1; sample(0, 1, 1): 3;"
                + " sample(0, MIN, 1): 3; sample(0, MAX, 1): 3",
                "read('12:0,12>5;0,12>1;0,12>2;0,12>3;0,12>4;0,12>5'): 6; sample(0, 0, 1): 5; sample(0, 17, 1): 5; sample(0, 36, 1): 5");
    }

    private void sampleArguments() {
        document.promise(26, "- `state`: the start state",
                "sample(0, 7, 0): 0; sample(1, 7, 0): 1; sample(2, 7, 0): NO_SUCH_STATE; reset(6, 1): 2; sample(5, 7, 1000): 5;"
                + " sample(6, 7, 0): NO_SUCH_STATE");
        document.promise(26, "- `seed`: the seed",
                SAMPLED + "sample(1, MIN, 10): 0; sample(1, MIN, 999): 2; sample(1, MIN, 1000): 0; sample(1, MAX, 1): 1;"
                + " sample(1, MAX, 2): 0; sample(1, MAX, 1000): 2; sample(1, 0, 10): 0; sample(1, -42, 10): 2");
        document.promise(26, "- `steps`: the number of transitions, 0 to 1000",
                "read('1:0,1>1;0,1>0'): 2; sample(0, 1, -1): BAD_ARGUMENT; sample(0, 1, 0): 0; sample(0, 1, 1): 1;"
                + " sample(0, 1, 999): 1; sample(0, 1, 1000): 0; sample(0, 1, 1001): BAD_ARGUMENT");
        document.promise(26, "Returns the last state;",
                "read('1:0,1>1;0,1>2;0,1>0'): 3; sample(0, 5, 1): 1; sample(0, 5, 2): 2; sample(0, 5, 3): 0; sample(2, 5, 1000): 0");
        document.promise(26, "NO_SUCH_STATE (checked first);",
                "sample(2, 0, 1001): NO_SUCH_STATE; sample(-1, 0, -1): NO_SUCH_STATE; sample(MIN, 0, 0): NO_SUCH_STATE;"
                + " sample(MAX, 0, 0): NO_SUCH_STATE");
        document.promise(26, "BAD_ARGUMENT if the number of steps is out of range.",
                "sample(0, 0, 1001): BAD_ARGUMENT; sample(0, 0, -1): BAD_ARGUMENT; sample(0, 0, MIN): BAD_ARGUMENT;"
                + " sample(0, 0, MAX): BAD_ARGUMENT");
    }

    private void sampledVisits() {
        document.promise(27, "Counts how often a sampled path, as for sample, visits a state with a label.",
                SAMPLED + "sampledVisits(1, 42, 10, 1): 6; sampledVisits(1, 42, 10, 0): 5; sampledVisits(1, 42, 1000, 1): 571;"
                + " sampledVisits(1, 42, 1000, 0): 430; sampledVisits(1, -42, 10, 1): 7; sampledVisits(1, 42, 1000, 2): 0");
        document.promise(27, "The start state and the last state count, too: a path with m transitions visits m + 1 states.",
                "read('1:0,1>1;1,1>0'): 2; sampledVisits(0, 3, 0, 0): 1; sampledVisits(0, 3, 0, 1): 0; sampledVisits(0, 3, 1, 0): 1;"
                + " sampledVisits(0, 3, 1, 1): 1; sampledVisits(0, 3, 2, 0): 2; sampledVisits(1, 3, 2, 0): 1;"
                + " sampledVisits(0, 3, 1000, 0): 501; sampledVisits(0, 3, 1000, 1): 500",
                "sampledVisits(0, 3, 0, 0): 1; sampledVisits(0, 3, 1, 0): 2; sampledVisits(0, 3, 1000, 0): 1001");
        document.promise(27, "- `state`: the start state",
                "reset(6, 1): 2; setLabel(5, 3): 0; sampledVisits(5, 0, 9, 3): 10; sampledVisits(0, 0, 9, 3): 0;"
                + " sampledVisits(6, 0, 9, 3): NO_SUCH_STATE");
        document.promise(27, "- `seed`: the seed",
                SAMPLED + "sampledVisits(1, MIN, 1000, 1): 578; sampledVisits(1, MAX, 1000, 0): 414; sampledVisits(1, MAX, 3, 1): 2;"
                + " sampledVisits(1, 0, 1000, 1): 585; sampledVisits(1, -42, 999, 0): 432");
        document.promise(27, "- `steps`: the number of transitions, 0 to 1000",
                "sampledVisits(0, 0, -1, 0): BAD_ARGUMENT; sampledVisits(0, 0, 0, 0): 1; sampledVisits(0, 0, 1000, 0): 1001;"
                + " sampledVisits(0, 0, 1001, 0): BAD_ARGUMENT");
        document.promise(27, "- `label`: the label, 0 to 3",
                LABELS + "sampledVisits(0, 0, 4, 0): 5; sampledVisits(3, 0, 4, 3): 5; sampledVisits(3, 0, 4, 0): 0;"
                + " sampledVisits(0, 0, 4, 3): 0; sampledVisits(0, 0, 4, -1): BAD_ARGUMENT; sampledVisits(0, 0, 4, 4): BAD_ARGUMENT");
    }

    private void sampledVisitsRefused() {
        document.promise(27, "Returns the number of visits;",
                "read('1:0,1>1;1,1>2;1,1>0'): 3; sampledVisits(0, 5, 3, 1): 2; sampledVisits(0, 5, 3, 0): 2;"
                + " sampledVisits(1, 5, 3, 1): 3");
        document.promise(27, "NO_SUCH_STATE (checked first);",
                "sampledVisits(2, 0, 1001, 4): NO_SUCH_STATE; sampledVisits(-1, 0, -1, -1): NO_SUCH_STATE;"
                + " sampledVisits(MIN, 0, 0, 0): NO_SUCH_STATE; sampledVisits(MAX, 0, 0, 0): NO_SUCH_STATE");
        document.promise(27, "BAD_ARGUMENT if another argument is out of range.",
                "sampledVisits(0, 0, 1001, 0): BAD_ARGUMENT; sampledVisits(0, 0, -1, 0): BAD_ARGUMENT;"
                + " sampledVisits(0, 0, 0, 4): BAD_ARGUMENT; sampledVisits(0, 0, 0, -1): BAD_ARGUMENT;"
                + " sampledVisits(0, 0, MIN, 0): BAD_ARGUMENT; sampledVisits(0, 0, MAX, 0): BAD_ARGUMENT;"
                + " sampledVisits(0, 0, 0, MIN): BAD_ARGUMENT; sampledVisits(0, 0, 0, MAX): BAD_ARGUMENT;"
                + " sampledVisits(0, 0, 1001, 4): BAD_ARGUMENT");
    }
}
