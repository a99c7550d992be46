/** Promises 1 to 12, 37 and 38: the chain, its edits and its snapshot. */
final class ChainEdges {
    private final Sentences document;

    ChainEdges(Sentences document) {
        this.document = document;
    }

    void run() {
        newObject();
        reset();
        sizes();
        setLabel();
        label();
        moveWeight();
        moveWeightRefused();
        weight();
        setDiscount();
        swapStates();
        undo();
        editCount();
        snapshot();
        restore();
    }

    private void newObject() {
        document.promise(1, "Creates a calculator with 2 states, resolution 1 and discount 1 / 1.",
                "states(): 2; resolution(): 1; setDiscount(1, 1): 0; maximumDepth(): 99; label(1): 0;"
                + " label(2): NO_SUCH_STATE; weights(): 1,0,0,1");
    }

    private void reset() {
        document.promise(2, "Replaces the chain.",
                "read('4:1,4>1;2,4>2;3,4>0'): 3; reset(2, 5): 3; states(): 2; resolution(): 5; labels(): 0,0;"
                + " weights(): 5,0,0,5; classes(): 0,0; distance(3, 0, 1): 0/1; label(2): NO_SUCH_STATE");
        document.promise(2, "Every state has label 0 and weight D to itself.",
                "setLabel(0, 3): 0; moveWeight(0, 0, 1, 1): 1; reset(2, 1): 2; labels(): 0,0; weights(): 1,0,0,1",
                "reset(1, 12): 2; labels(): 0; weights(): 12",
                "reset(1, 1): 2; labels(): 0; weights(): 1",
                "setLabel(1, 2): 0; reset(6, 12): 2; labels(): 0,0,0,0,0,0; weights(): 12,0,0,0,0,0,0,12,0,0,0,0,"
                + "0,0,12,0,0,0,0,0,0,12,0,0,0,0,0,0,12,0,0,0,0,0,0,12",
                "read('2:3,2>2;3,2>0;3,2>0'): 3; reset(1, 1): 3; reset(3, 2): 1; labels(): 0,0,0; weights(): 2,0,0,0,2,0,0,0,2");
        document.promise(2, "The discount stays.",
                "setDiscount(3, 4): 1; reset(4, 4): 2; maximumDepth(): 12; setDiscount(3, 4): 0; setDiscount(1, 1): 1");
        document.promise(2, "- `states`: the number of states n, 1 to 6",
                "reset(0, 1): BAD_ARGUMENT; states(): 2; reset(1, 1): 2; states(): 1",
                "reset(7, 1): BAD_ARGUMENT; states(): 2; reset(6, 1): 2; states(): 6",
                "reset(-1, 1): BAD_ARGUMENT; reset(MIN, 1): BAD_ARGUMENT; reset(MAX, 1): BAD_ARGUMENT; states(): 2");
        document.promise(2, "- `resolution`: the resolution D, 1 to 12",
                "reset(1, 0): BAD_ARGUMENT; states(): 2; reset(1, 1): 2; resolution(): 1",
                "reset(1, 13): BAD_ARGUMENT; states(): 2; reset(1, 12): 2; resolution(): 12",
                "reset(2, -1): BAD_ARGUMENT; reset(2, MIN): BAD_ARGUMENT; reset(2, MAX): BAD_ARGUMENT; resolution(): 1");
        document.promise(2, "Returns the previous number of states;",
                "reset(5, 3): 2; reset(5, 3): 5; reset(1, 3): 5; reset(6, 3): 1; reset(2, 3): 6");
        document.promise(2, "BAD_ARGUMENT if an argument is out of range.",
                "setLabel(1, 2): 0; moveWeight(0, 0, 1, 1): 1; reset(0, 12): BAD_ARGUMENT; reset(6, 13): BAD_ARGUMENT;"
                + " reset(7, 0): BAD_ARGUMENT; states(): 2; resolution(): 1; labels(): 0,2; weights(): 0,1,0,1;"
                + " editCount(): 2; undo(): 1; undo(): 0; labels(): 0,0; weights(): 1,0,0,1");
    }

    private void sizes() {
        document.promise(3, "Returns the number of states.",
                "states(): 2; reset(6, 3): 2; states(): 6; reset(1, 3): 6; states(): 1; reset(0, 3): BAD_ARGUMENT;"
                + " states(): 1; read('1:0,1>0;1,1>1;2,1>2'): 3; states(): 3",
                "states(): 2; minimize(): 1; states(): 1",
                "snapshot(): 2; reset(4, 4): 2; states(): 4; restore(): 2; states(): 2");
        document.promise(3, "Returns n.",
                "read('1:0,1>0;'): -1008; states(): 2; swapStates(0, 1): 0; states(): 2");
        document.promise(4, "Returns the resolution.",
                "resolution(): 1; reset(3, 12): 2; resolution(): 12; reset(3, 13): BAD_ARGUMENT; resolution(): 12;"
                + " read('7:0,7>0'): 1; resolution(): 7; read('8:0,7>0'): INCONSISTENT; resolution(): 7",
                "reset(2, 9): 2; setDiscount(1, 4): 1; resolution(): 9; minimize(): 1; resolution(): 9",
                "snapshot(): 2; reset(2, 6): 2; restore(): 2; resolution(): 1");
        document.promise(4, "Returns D.",
                "read('04:0,4>0'): 1; resolution(): 4; weight(0, 0): 4");
    }

    private void setLabel() {
        document.promise(5, "Sets the label of a state.",
                "reset(6, 2): 2; setLabel(5, 3): 0; setLabel(0, 2): 0; labels(): 2,0,0,0,0,3; setLabel(5, 1): 3;"
                + " labels(): 2,0,0,0,0,1; weights(): 2,0,0,0,0,0,0,2,0,0,0,0,0,0,2,0,0,0,0,0,0,2,0,0,"
                + "0,0,0,0,2,0,0,0,0,0,0,2");
        document.promise(5, "- `state`: the state",
                "setLabel(-1, 1): NO_SUCH_STATE; setLabel(2, 1): NO_SUCH_STATE; setLabel(MIN, 1): NO_SUCH_STATE;"
                + " setLabel(MAX, 1): NO_SUCH_STATE; setLabel(1, 1): 0; labels(): 0,1; editCount(): 1",
                "reset(6, 1): 2; setLabel(6, 1): NO_SUCH_STATE; setLabel(5, 1): 0; reset(5, 1): 6;"
                + " setLabel(5, 1): NO_SUCH_STATE; reset(6, 1): 5; label(5): 0");
        document.promise(5, "- `label`: the new label, 0 to 3",
                "setLabel(0, 3): 0; label(0): 3; setLabel(0, 0): 3; label(0): 0; setLabel(0, 2): 0; setLabel(0, 1): 2;"
                + " editCount(): 4");
        document.promise(5, "Returns the previous label;",
                "setLabel(0, 1): 0; setLabel(0, 1): 1; editCount(): 1; setLabel(0, 3): 1; setLabel(0, 2): 3;"
                + " setLabel(1, 2): 0; editCount(): 4");
        document.promise(5, "NO_SUCH_STATE (checked first);",
                "setLabel(2, 4): NO_SUCH_STATE; setLabel(-1, -1): NO_SUCH_STATE; editCount(): 0; labels(): 0,0");
        document.promise(5, "BAD_ARGUMENT if the label is out of range.",
                "setLabel(1, 2): 0; setLabel(1, 4): BAD_ARGUMENT; setLabel(1, -1): BAD_ARGUMENT;"
                + " setLabel(1, MIN): BAD_ARGUMENT; setLabel(1, MAX): BAD_ARGUMENT; label(1): 2; editCount(): 1;"
                + " undo(): 0; label(1): 0");
    }

    private void label() {
        document.promise(6, "Returns the label of a state.",
                "read('1:3,1>0;0,1>0;1,1>0;2,1>0'): 4; label(0): 3; label(1): 0; label(2): 1; label(3): 2");
        document.promise(6, "- `state`: the state",
                "label(0): 0; label(1): 0; reset(6, 1): 2; label(5): 0; reset(1, 1): 6; label(0): 0");
        document.promise(6, "Returns the label;",
                "setLabel(0, 3): 0; label(0): 3; setLabel(0, 4): BAD_ARGUMENT; label(0): 3; undo(): 0; label(0): 0");
        document.promise(6, "NO_SUCH_STATE.",
                "label(2): NO_SUCH_STATE; label(-1): NO_SUCH_STATE; label(MIN): NO_SUCH_STATE; label(MAX): NO_SUCH_STATE",
                "reset(6, 1): 2; label(6): NO_SUCH_STATE; reset(1, 1): 6; label(1): NO_SUCH_STATE");
    }

    private void moveWeight() {
        document.promise(7, "Moves weight from one successor of a state to another one.",
                "reset(3, 7): 2; moveWeight(1, 1, 2, 4): 4; weights(): 7,0,0,0,3,4,0,0,7; moveWeight(1, 2, 0, 1): 1;"
                + " weights(): 7,0,0,1,3,3,0,0,7; moveWeight(1, 1, 0, 3): 4; weights(): 7,0,0,4,0,3,0,0,7; editCount(): 3");
        document.promise(7, "If both successors are equal, nothing changes.",
                "reset(2, 5): 2; moveWeight(0, 0, 0, 5): 5; moveWeight(0, 0, 0, 1): 5; moveWeight(0, 1, 1, 0): 0;"
                + " weights(): 5,0,0,5; editCount(): 0");
        document.promise(7, "- `state`: the state",
                "reset(6, 1): 2; moveWeight(5, 5, 0, 1): 1; weight(5, 0): 1; moveWeight(0, 0, 5, 1): 1; weight(0, 5): 1");
        document.promise(7, "- `from`: the successor whose weight is reduced",
                "reset(2, 3): 2; moveWeight(1, 1, 0, 1): 1; weight(1, 1): 2; moveWeight(1, 1, 0, 2): 3; weight(1, 1): 0");
        document.promise(7, "- `to`: the successor whose weight is increased",
                "reset(2, 3): 2; moveWeight(1, 1, 0, 1): 1; weight(1, 0): 1; moveWeight(1, 1, 0, 2): 3; weight(1, 0): 3");
        document.promise(7, "- `amount`: the amount, 0 to 12",
                "reset(2, 12): 2; moveWeight(0, 0, 1, 0): 0; weights(): 12,0,0,12; editCount(): 0;"
                + " moveWeight(0, 0, 1, 12): 12; weights(): 0,12,0,12; editCount(): 1");
        document.promise(7, "Returns the new weight from the state to the second successor;",
                "reset(2, 12): 2; moveWeight(0, 0, 1, 2): 2; moveWeight(0, 0, 1, 3): 5; moveWeight(0, 1, 0, 1): 8;"
                + " moveWeight(0, 1, 0, 0): 8; moveWeight(0, 1, 1, 4): 4; editCount(): 3");
    }

    private void moveWeightRefused() {
        document.promise(7, "NO_SUCH_STATE if any of the three states does not exist (checked first);",
                "moveWeight(2, 0, 0, 13): NO_SUCH_STATE; moveWeight(0, 2, 0, 13): NO_SUCH_STATE;"
                + " moveWeight(0, 0, 2, 13): NO_SUCH_STATE; moveWeight(-1, 0, 0, -1): NO_SUCH_STATE;"
                + " moveWeight(0, -1, 0, -1): NO_SUCH_STATE; moveWeight(0, 0, -1, -1): NO_SUCH_STATE;"
                + " moveWeight(MIN, MAX, MIN, MAX): NO_SUCH_STATE; moveWeight(2, 2, 2, 0): NO_SUCH_STATE;"
                + " moveWeight(0, 0, 2, 1): NO_SUCH_STATE; weights(): 1,0,0,1; editCount(): 0");
        document.promise(7, "BAD_ARGUMENT if the amount is out of range (checked second);",
                "moveWeight(0, 0, 1, 13): BAD_ARGUMENT; moveWeight(0, 0, 1, -1): BAD_ARGUMENT;"
                + " moveWeight(0, 1, 0, MAX): BAD_ARGUMENT; moveWeight(0, 1, 0, MIN): BAD_ARGUMENT;"
                + " moveWeight(1, 1, 1, 13): BAD_ARGUMENT; moveWeight(1, 1, 1, -1): BAD_ARGUMENT;"
                + " weights(): 1,0,0,1; editCount(): 0");
        document.promise(7, "INSUFFICIENT_WEIGHT if the amount is larger than the weight to the first successor, even if both"
                + " successors are equal.",
                "reset(2, 4): 2; moveWeight(0, 0, 1, 5): INSUFFICIENT_WEIGHT; moveWeight(0, 0, 1, 12): INSUFFICIENT_WEIGHT;"
                + " moveWeight(0, 1, 0, 1): INSUFFICIENT_WEIGHT; weights(): 4,0,0,4; editCount(): 0;"
                + " moveWeight(0, 0, 1, 4): 4; editCount(): 1",
                "reset(2, 4): 2; moveWeight(0, 0, 0, 5): INSUFFICIENT_WEIGHT; moveWeight(0, 1, 1, 1): INSUFFICIENT_WEIGHT;"
                + " moveWeight(0, 0, 0, 4): 4; moveWeight(0, 1, 1, 0): 0; weights(): 4,0,0,4; editCount(): 0");
    }

    private void weight() {
        document.promise(8, "Returns the weight from one state to another one.",
                "read('9:0,2>0,3>1,4>2;0,9>0;0,1>0,8>1'): 3; weights(): 2,3,4,9,0,0,1,8,0");
        document.promise(8, "- `from`: the state - `to`: the successor",
                "read('9:0,1>0,8>1;0,7>0,2>1'): 2; weight(0, 1): 8; weight(1, 0): 7");
        document.promise(8, "Returns the weight, 0 to D;",
                "reset(2, 12): 2; weight(0, 0): 12; weight(0, 1): 0; moveWeight(0, 0, 1, 12): 12; weight(0, 0): 0;"
                + " weight(0, 1): 12");
        document.promise(8, "NO_SUCH_STATE if either state does not exist.",
                "weight(2, 0): NO_SUCH_STATE; weight(0, 2): NO_SUCH_STATE; weight(-1, 0): NO_SUCH_STATE;"
                + " weight(0, -1): NO_SUCH_STATE; weight(2, 2): NO_SUCH_STATE; weight(MIN, 0): NO_SUCH_STATE;"
                + " weight(0, MAX): NO_SUCH_STATE",
                "reset(6, 1): 2; weight(5, 5): 1; weight(6, 5): NO_SUCH_STATE; weight(5, 6): NO_SUCH_STATE",
                "reset(1, 1): 2; weight(0, 0): 1; weight(1, 0): NO_SUCH_STATE; weight(0, 1): NO_SUCH_STATE");
    }

    private void setDiscount() {
        document.promise(9, "Sets the discount.",
                "read('1:0,1>1;1,1>1;0,1>2'): 3; distance(2, 0, 2): 1/1; setDiscount(3, 4): 1; distance(2, 0, 2): 3/4;"
                + " setDiscount(0, 1): 1; distance(2, 0, 2): 0/1",
                // one part of it alone
                "read('1:0,1>1;1,1>1;0,1>2'): 3; distance(2, 0, 2): 1/1; setDiscount(1, 4): 1; distance(2, 0, 2): 1/4;"
                + " setDiscount(3, 4): 1; distance(2, 0, 2): 3/4; undo(): 1; distance(2, 0, 2): 1/4; undo(): 0; distance(2, 0, 2): 1/1");
        document.promise(9, "- `numerator`: the numerator p, 0 to the denominator",
                "setDiscount(-1, 1): BAD_ARGUMENT; setDiscount(0, 1): 1; setDiscount(1, 1): 1; setDiscount(2, 1): BAD_ARGUMENT",
                "setDiscount(-1, 2): BAD_ARGUMENT; setDiscount(0, 2): 1; setDiscount(2, 2): 1; setDiscount(3, 2): BAD_ARGUMENT",
                "setDiscount(-1, 3): BAD_ARGUMENT; setDiscount(0, 3): 1; setDiscount(3, 3): 1; setDiscount(4, 3): BAD_ARGUMENT",
                "setDiscount(-1, 4): BAD_ARGUMENT; setDiscount(0, 4): 1; setDiscount(4, 4): 1; setDiscount(5, 4): BAD_ARGUMENT",
                "setDiscount(MIN, 4): BAD_ARGUMENT; setDiscount(MAX, 4): BAD_ARGUMENT");
        document.promise(9, "- `denominator`: the denominator r, 1 to 4",
                "setDiscount(0, 0): BAD_ARGUMENT; setDiscount(0, 1): 1; setDiscount(1, 4): 1; setDiscount(1, 5): BAD_ARGUMENT",
                "setDiscount(-1, -1): BAD_ARGUMENT; setDiscount(0, -1): BAD_ARGUMENT; setDiscount(-2, -1): BAD_ARGUMENT;"
                + " setDiscount(0, MIN): BAD_ARGUMENT; setDiscount(0, MAX): BAD_ARGUMENT");
        document.promise(9, "Returns 1 if the numerator or the denominator changed, 0 if not;",
                "setDiscount(1, 1): 0; editCount(): 0; setDiscount(1, 2): 1; setDiscount(2, 2): 1; setDiscount(2, 2): 0;"
                + " setDiscount(2, 4): 1; setDiscount(1, 2): 1; setDiscount(1, 2): 0; editCount(): 4",
                "setDiscount(0, 1): 1; setDiscount(0, 2): 1; setDiscount(0, 2): 0; editCount(): 2");
        document.promise(9, "BAD_ARGUMENT if an argument is out of range.",
                "setDiscount(2, 3): 1; setDiscount(4, 3): BAD_ARGUMENT; setDiscount(2, 5): BAD_ARGUMENT;"
                + " setDiscount(5, 5): BAD_ARGUMENT; setDiscount(2, 0): BAD_ARGUMENT; setDiscount(0, 0): BAD_ARGUMENT;"
                + " setDiscount(2, 3): 0; editCount(): 1; undo(): 0; setDiscount(1, 1): 0");
    }

    private void swapStates() {
        document.promise(10, "Exchanges the numbers of two states: afterwards, the first number names the state that the second"
                + " one named before, and the other way round.",
                "read('4:1,1>0,3>1;2,4>2;3,2>0,2>1'): 3; swapStates(0, 2): 1; labels(): 3,2,1;"
                + " weights(): 0,2,2,4,0,0,0,3,1; swapStates(2, 0): 1; labels(): 1,2,3; weights(): 1,3,0,0,0,4,2,2,0",
                "read('5:0,5>0;1,5>0;2,1>0,4>1;3,5>2'): 4; swapStates(1, 0): 1; labels(): 1,0,2,3;"
                + " weights(): 0,5,0,0,0,5,0,0,4,1,0,0,0,0,5,0");
        document.promise(10, "- `first`: a state - `second`: a state",
                "reset(6, 2): 2; setLabel(5, 3): 0; swapStates(5, 0): 1; labels(): 3,0,0,0,0,0; swapStates(0, 5): 1;"
                + " labels(): 0,0,0,0,0,3");
        document.promise(10, "Returns 1 if a label or a weight of the chain changed, 0 if not;",
                "swapStates(0, 1): 0; swapStates(0, 0): 0; editCount(): 0; weights(): 1,0,0,1",
                "setLabel(0, 1): 0; swapStates(0, 0): 0; swapStates(1, 1): 0; editCount(): 1; swapStates(0, 1): 1;"
                + " labels(): 0,1; editCount(): 2; undo(): 1; labels(): 1,0",
                "moveWeight(0, 0, 1, 1): 1; swapStates(0, 1): 1; weights(): 1,0,1,0; editCount(): 2; undo(): 1;"
                + " weights(): 0,1,0,1",
                "read('2:0,2>1;0,2>0'): 2; swapStates(0, 1): 0; weights(): 0,2,2,0; editCount(): 0",
                // only the weights of a third state change
                "read('3:0,3>0;0,3>1;0,1>0,2>1'): 3; swapStates(0, 1): 1; weights(): 3,0,0,0,3,0,2,1,0; editCount(): 1");
        document.promise(10, "NO_SUCH_STATE if either state does not exist.",
                "setLabel(0, 1): 0; swapStates(0, 2): NO_SUCH_STATE; swapStates(2, 0): NO_SUCH_STATE;"
                + " swapStates(-1, 0): NO_SUCH_STATE; swapStates(0, -1): NO_SUCH_STATE; swapStates(2, 2): NO_SUCH_STATE;"
                + " swapStates(-1, -1): NO_SUCH_STATE; swapStates(MIN, MAX): NO_SUCH_STATE; labels(): 1,0; editCount(): 1");
    }

    private void undo() {
        document.promise(11, "Undoes the last edit.",
                "setLabel(1, 2): 0; undo(): 0; labels(): 0,0",
                "reset(2, 9): 2; moveWeight(1, 1, 0, 4): 4; undo(): 0; weights(): 9,0,0,9",
                "setDiscount(3, 4): 1; undo(): 0; maximumDepth(): 99; setDiscount(1, 1): 0",
                "read('4:1,1>0,3>1;2,4>2;3,2>0,2>1'): 3; swapStates(0, 2): 1; undo(): 0; labels(): 1,2,3;"
                + " weights(): 1,3,0,0,0,4,2,2,0",
                // calls that change nothing are not undone
                "setLabel(1, 2): 0; setLabel(1, 2): 2; swapStates(1, 1): 0; moveWeight(0, 0, 0, 1): 1; undo(): 0;"
                + " labels(): 0,0",
                // undoing is no edit: the next one undoes the edit before
                "setLabel(0, 1): 0; setLabel(0, 2): 1; undo(): 1; label(0): 1; undo(): 0; label(0): 0");
        document.promise(11, "Returns the number of edits that are still remembered;",
                "setLabel(0, 1): 0; setLabel(0, 2): 1; setLabel(0, 3): 2; undo(): 2; editCount(): 2; setLabel(1, 1): 0;"
                + " undo(): 2; undo(): 1; undo(): 0; editCount(): 0");
        document.promise(11, "NOTHING_TO_UNDO if none was remembered.",
                "undo(): NOTHING_TO_UNDO; states(): 2; labels(): 0,0; weights(): 1,0,0,1; editCount(): 0",
                "setLabel(0, 1): 0; undo(): 0; undo(): NOTHING_TO_UNDO; undo(): NOTHING_TO_UNDO; editCount(): 0;"
                + " setLabel(0, 2): 0; undo(): 0; label(0): 0",
                "setLabel(0, 1): 0; reset(2, 1): 2; undo(): NOTHING_TO_UNDO; label(0): 0");
    }

    private void editCount() {
        String eleven = "setLabel(1, 1): 0; " + "setDiscount(0, 1): 1; setDiscount(1, 1): 1; ".repeat(5);
        document.promise(12, "Returns the number of remembered edits.",
                "editCount(): 0; setLabel(0, 1): 0; editCount(): 1; setLabel(0, 1): 1; editCount(): 1; undo(): 0;"
                + " editCount(): 0; undo(): NOTHING_TO_UNDO; editCount(): 0");
        document.promise(12, "Returns the number, 0 to 10.",
                "setDiscount(0, 1): 1; setDiscount(1, 1): 1; ".repeat(4) + "editCount(): 8; setLabel(0, 1): 0;"
                + " editCount(): 9; setLabel(0, 2): 1; editCount(): 10; setLabel(0, 3): 2; editCount(): 10; undo(): 9",
                eleven + "editCount(): 10; " + eleven.replace("setLabel(1, 1): 0", "setLabel(1, 2): 1")
                + "editCount(): 10; undo(): 9; editCount(): 9; setLabel(0, 1): 0; editCount(): 10; setLabel(0, 2): 1;"
                + " editCount(): 10",
                eleven + "reset(2, 1): 2; editCount(): 0; setLabel(0, 1): 0; editCount(): 1");
    }

    private void snapshot() {
        document.promise(37, "Takes a snapshot of the chain and the discount.",
                "read('4:0,3>1,1>2;1,4>1;3,2>0,2>1'): 3; setDiscount(1, 3): 1; snapshot(): 3; reset(6, 2): 3;"
                + " setDiscount(2, 4): 1; restore(): 3; resolution(): 4; labels(): 0,1,3; weights(): 0,3,1,0,4,0,2,2,0;"
                + " setDiscount(1, 3): 0",
                // it changes nothing and is not changed by later edits
                "setLabel(0, 1): 0; snapshot(): 2; editCount(): 1; labels(): 1,0; setLabel(0, 2): 1;"
                + " moveWeight(1, 1, 0, 1): 1; undo(): 2; undo(): 1; undo(): 0; labels(): 0,0; restore(): 2; labels(): 1,0;"
                + " weights(): 1,0,0,1",
                // neither the input buffer nor the arrays belong to it
                "typed('00'): 2; allocate(0, 0, 2): 2; snapshot(): 2; clearInput(): 2; typed('0'): 1;"
                + " putElement(0, 1, 7): 1; restore(): 2; clearInput(): 1; elements(0): 0,7");
        document.promise(37, "It replaces an earlier snapshot.",
                "snapshot(): 2; reset(1, 5): 2; setDiscount(0, 1): 1; snapshot(): 1; reset(3, 3): 1; setDiscount(1, 1): 1;"
                + " restore(): 1; weights(): 5; setDiscount(0, 1): 0; restore(): 1; weights(): 5");
        document.promise(37, "Returns the number of states.",
                "snapshot(): 2; reset(6, 1): 2; snapshot(): 6; reset(1, 1): 6; snapshot(): 1");
    }

    private void restore() {
        document.promise(38, "Restores the chain and the discount from the snapshot, and forgets all edits.",
                "setLabel(1, 2): 0; setDiscount(3, 4): 1; snapshot(): 2; setLabel(1, 3): 2; setDiscount(1, 4): 1;"
                + " moveWeight(0, 0, 1, 1): 1; swapStates(0, 1): 1; editCount(): 6; restore(): 2; labels(): 0,2;"
                + " weights(): 1,0,0,1; setDiscount(3, 4): 0; editCount(): 0; undo(): NOTHING_TO_UNDO; labels(): 0,2",
                // also if nothing else changes
                "setLabel(1, 2): 0; snapshot(): 2; restore(): 2; labels(): 0,2; editCount(): 0; undo(): NOTHING_TO_UNDO",
                // from fewer states to more ones, and back
                "read('3:3,3>5;2,3>4;1,3>3;0,3>2;1,3>1;2,3>0'): 6; snapshot(): 6; reset(1, 1): 6; label(1): NO_SUCH_STATE;"
                + " restore(): 6; labels(): 3,2,1,0,1,2; weight(0, 5): 3; weight(5, 5): 0; resolution(): 3",
                "snapshot(): 2; reset(6, 12): 2; setLabel(1, 3): 0; restore(): 2; label(2): NO_SUCH_STATE; labels(): 0,0;"
                + " farthestPair(15): 1; weights(): 1,0,0,1");
        document.promise(38, "The snapshot stays available.",
                "setLabel(0, 3): 0; snapshot(): 2; restore(): 2; setLabel(0, 1): 3; restore(): 2; label(0): 3;"
                + " setLabel(0, 2): 3; restore(): 2; label(0): 3",
                "snapshot(): 2; reset(3, 3): 2; read('1:1,1>0'): 1; minimize(): 1; setLabel(0, 2): 1; undo(): 0;"
                + " restore(): 2; labels(): 0,0");
        document.promise(38, "Returns the number of states;",
                "snapshot(): 2; reset(6, 1): 2; restore(): 2; reset(6, 1): 2; snapshot(): 6; minimize(): 1; restore(): 6");
        document.promise(38, "NOTHING_TO_UNDO if there is no snapshot.",
                "setLabel(0, 1): 0; setDiscount(1, 2): 1; restore(): NOTHING_TO_UNDO; labels(): 1,0; setDiscount(1, 2): 0;"
                + " editCount(): 2; undo(): 1; undo(): 0; restore(): NOTHING_TO_UNDO; snapshot(): 2; restore(): 2");
    }
}
