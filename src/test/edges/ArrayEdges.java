/** Promises 31 to 36: the array slots. */
final class ArrayEdges {
    /** The slots 0 to 3 hold 3 bytes, chars, ints and longs. */
    private static final String FOUR = "allocate(0, 0, 3): 3; allocate(1, 1, 3): 3; allocate(2, 2, 3): 3; allocate(3, 3, 3): 3; ";

    /** The ints 1 to 6 in slot 0, and four ints in slot 1. */
    private static final String INTS = "allocate(0, 2, 6): 6; allocate(1, 2, 4): 4; putElement(0, 0, 1): 1; putElement(0, 1, 2): 1;"
            + " putElement(0, 2, 3): 1; putElement(0, 3, 4): 1; putElement(0, 4, 5): 1; putElement(0, 5, 6): 1; ";

    private final Sentences document;

    ArrayEdges(Sentences document) {
        this.document = document;
    }

    void run() {
        allocate();
        release();
        putElement();
        putElementRefused();
        element();
        copyElements();
        copyElementsRefused();
        compareWithArray();
        compareWithArrayRefused();
    }

    private void allocate() {
        document.promise(31, "Stores a new array, filled with 0, in an array slot.",
                "allocate(0, 2, 3): 3; elements(0): 0,0,0; putElement(0, 1, 7): 1; elements(0): 0,7,0; allocate(0, 2, 3): 3;"
                + " elements(0): 0,0,0; putElement(0, 2, 7): 1; allocate(0, 3, 1): 1; allocate(0, 3, 3): 3; elements(0): 0,0,0",
                "allocate(0, 0, 2): 2; putElement(0, 0, 5): 1; release(0): 1; allocate(0, 0, 2): 2; elements(0): 0,0");
        document.promise(31, "- `slot`: the slot, 0 to 3",
                "allocate(-1, 0, 1): BAD_ARGUMENT; allocate(0, 0, 1): 1; allocate(3, 0, 2): 2; allocate(4, 0, 1): BAD_ARGUMENT;"
                + " elements(0): 0; release(1): 0; release(2): 0; elements(3): 0,0");
        document.promise(31, "- `type`: the element type: 0 byte, 1 char, 2 int, 3 long",
                FOUR + "putElement(0, 0, -1): 1; putElement(1, 0, -1): 1; putElement(2, 0, 4294967295): 1; putElement(3, 0, 4294967295): 1;"
                + " elements(0): -1,0,0; elements(1): 65535,0,0; elements(2): -1,0,0; elements(3): 4294967295,0,0",
                "allocate(0, -1, 1): BAD_ARGUMENT; allocate(0, 4, 1): BAD_ARGUMENT; release(0): 0");
        document.promise(31, "- `size`: the number of elements",
                "allocate(0, 0, 40): 40; element(0, 39): 0; element(0, 40): NO_VALUE; allocate(0, 0, 41): BAD_ARGUMENT;"
                + " element(0, 39): 0; allocate(0, 0, 0): 0; element(0, 0): NO_VALUE; putElement(0, 0, 1): INDEX_OUT_OF_RANGE;"
                + " release(0): 1");
        document.promise(31, "Returns the size;",
                "allocate(2, 1, 0): 0; allocate(2, 1, 1): 1; allocate(2, 1, 39): 39; allocate(2, 1, 40): 40");
        document.promise(31, "BAD_ARGUMENT if the slot or the type is out of range or the size is above 40 (checked first);",
                "allocate(0, 2, 1): 1; putElement(0, 0, 9): 1; allocate(0, 4, 1): BAD_ARGUMENT; allocate(0, 2, 41): BAD_ARGUMENT;"
                + " allocate(0, 2, MAX): BAD_ARGUMENT; allocate(0, MIN, 1): BAD_ARGUMENT; allocate(0, MAX, 1): BAD_ARGUMENT;"
                + " allocate(MIN, 0, 1): BAD_ARGUMENT; allocate(MAX, 0, 1): BAD_ARGUMENT; elements(0): 9",
                "allocate(4, 0, -1): BAD_ARGUMENT; allocate(-1, 0, -1): BAD_ARGUMENT; allocate(0, 4, -1): BAD_ARGUMENT;"
                + " allocate(0, -1, -1): BAD_ARGUMENT");
        document.promise(31, "NEGATIVE_SIZE.",
                "allocate(0, 2, -1): NEGATIVE_SIZE; release(0): 0; allocate(0, 2, 1): 1; putElement(0, 0, 9): 1;"
                + " allocate(0, 2, -1): NEGATIVE_SIZE; allocate(0, 3, MIN): NEGATIVE_SIZE; elements(0): 9;"
                + " putElement(0, 0, 4294967296): 1; elements(0): 0");
    }

    private void release() {
        document.promise(32, "Empties an array slot.",
                FOUR + "release(1): 1; element(1, 0): NO_VALUE; putElement(1, 0, 1): EMPTY_SLOT; elements(0): 0,0,0;"
                + " elements(2): 0,0,0; copyElements(1, 0, 1, 0, 0): EMPTY_SLOT",
                "allocate(0, 0, 4): 4; release(0): 1; compareWithArray(0): EMPTY_SLOT");
        document.promise(32, "- `slot`: the slot, 0 to 3",
                FOUR + "release(-1): BAD_ARGUMENT; release(0): 1; release(3): 1; release(4): BAD_ARGUMENT; release(1): 1; release(2): 1");
        document.promise(32, "Returns 1 if it held an array, 0 if it was empty;",
                "release(0): 0; allocate(0, 3, 1): 1; release(0): 1; release(0): 0; allocate(0, 3, 0): 0; release(0): 1; release(0): 0");
        document.promise(32, "BAD_ARGUMENT if the slot is out of range.",
                "release(4): BAD_ARGUMENT; release(-1): BAD_ARGUMENT; release(MIN): BAD_ARGUMENT; release(MAX): BAD_ARGUMENT");
    }

    private void putElement() {
        document.promise(33, "Sets an array element.",
                FOUR + "putElement(2, 1, 5): 1; elements(2): 0,5,0; putElement(2, 1, 6): 1; putElement(2, 0, 7): 1;"
                + " putElement(2, 2, 8): 1; elements(2): 7,6,8; elements(0): 0,0,0; elements(3): 0,0,0");
        document.promise(33, "The value is narrowed to the element type as by a Java cast.",
                FOUR + "putElement(0, 0, 127): 1; putElement(0, 1, 128): 1; putElement(0, 2, 255): 1; elements(0): 127,-128,-1;"
                + " putElement(0, 0, 256): 1; putElement(0, 1, -129): 1; putElement(0, 2, -128): 1; elements(0): 0,127,-128;"
                + " putElement(0, 0, MIN): 1; putElement(0, 1, MAX): 1; putElement(0, 2, -257): 1; elements(0): 0,-1,-1",
                FOUR + "putElement(1, 0, 65535): 1; putElement(1, 1, 65536): 1; putElement(1, 2, -1): 1; elements(1): 65535,0,65535;"
                + " putElement(1, 0, -32768): 1; putElement(1, 1, MIN): 1; putElement(1, 2, MAX): 1; elements(1): 32768,0,65535",
                FOUR + "putElement(2, 0, 2147483647): 1; putElement(2, 1, 2147483648): 1; putElement(2, 2, -2147483649): 1;"
                + " elements(2): 2147483647,-2147483648,2147483647; putElement(2, 0, MIN): 1; putElement(2, 1, MAX): 1;"
                + " putElement(2, 2, 4294967297): 1; elements(2): 0,-1,1",
                FOUR + "putElement(3, 0, MAX): 1; putElement(3, 1, -9223372036854775807): 1; putElement(3, 2, 4294967296): 1;"
                + " elements(3): 9223372036854775807,-9223372036854775807,4294967296; putElement(3, 1, MIN): 1;"
                + " element(3, 1): -9223372036854775808; element(3, 2): 4294967296");
        document.promise(33, "- `slot`: the slot - `index`: the index - `value`: the value",
                "allocate(3, 3, 40): 40; putElement(3, 39, 1): 1; putElement(3, 40, 1): INDEX_OUT_OF_RANGE; putElement(3, 0, 2): 1;"
                + " putElement(3, -1, 1): INDEX_OUT_OF_RANGE; element(3, 39): 1; element(3, 0): 2; element(3, 1): 0");
        document.promise(33, "Returns 1;",
                "allocate(0, 0, 1): 1; putElement(0, 0, 0): 1; putElement(0, 0, 0): 1; putElement(0, 0, 256): 1");
    }

    private void putElementRefused() {
        document.promise(33, "BAD_ARGUMENT if the slot is out of range (checked first);",
                "putElement(4, 0, 0): BAD_ARGUMENT; putElement(-1, 0, 0): BAD_ARGUMENT; putElement(MIN, -1, 0): BAD_ARGUMENT;"
                + " putElement(MAX, 40, 0): BAD_ARGUMENT; release(0): 0");
        document.promise(33, "EMPTY_SLOT (checked second);",
                "putElement(0, 0, 1): EMPTY_SLOT; putElement(3, -1, 1): EMPTY_SLOT; putElement(3, 40, 1): EMPTY_SLOT; release(0): 0;"
                + " allocate(0, 0, 1): 1; release(0): 1; putElement(0, 0, 1): EMPTY_SLOT");
        document.promise(33, "INDEX_OUT_OF_RANGE.",
                "allocate(0, 0, 2): 2; putElement(0, 2, 1): INDEX_OUT_OF_RANGE; putElement(0, -1, 1): INDEX_OUT_OF_RANGE;"
                + " putElement(0, MIN, 1): INDEX_OUT_OF_RANGE; putElement(0, MAX, 1): INDEX_OUT_OF_RANGE; elements(0): 0,0",
                // an array that has become smaller
                "allocate(0, 0, 5): 5; allocate(0, 0, 2): 2; putElement(0, 4, 1): INDEX_OUT_OF_RANGE; allocate(0, 0, 5): 5;"
                + " elements(0): 0,0,0,0,0");
    }

    private void element() {
        document.promise(34, "Returns an array element.",
                INTS + "element(0, 0): 1; element(0, 5): 6; element(1, 3): 0");
        document.promise(34, "A char is returned as its code, 0 to 65535.",
                FOUR + "putElement(1, 0, 65): 1; putElement(1, 1, 32768): 1; putElement(1, 2, 65535): 1; elements(1): 65,32768,65535");
        document.promise(34, "- `slot`: the slot - `index`: the index",
                "allocate(3, 1, 40): 40; putElement(3, 39, 5): 1; element(3, 39): 5; element(3, 40): NO_VALUE; element(3, 0): 0;"
                + " element(3, -1): NO_VALUE");
        document.promise(34, "Returns the element;",
                FOUR + "putElement(0, 0, -128): 1; element(0, 0): -128; element(0, 0): -128; putElement(3, 2, -5): 1; element(3, 2): -5");
        document.promise(34, "NO_VALUE if the slot is out of range or empty, or the index is out of range.",
                "element(4, 0): NO_VALUE; element(-1, 0): NO_VALUE; element(MIN, 0): NO_VALUE; element(MAX, 0): NO_VALUE",
                "element(0, 0): NO_VALUE; allocate(0, 0, 1): 1; element(0, 0): 0; release(0): 1; element(0, 0): NO_VALUE",
                "allocate(0, 0, 2): 2; element(0, 1): 0; element(0, 2): NO_VALUE; element(0, -1): NO_VALUE;"
                + " element(0, MIN): NO_VALUE; element(0, MAX): NO_VALUE; allocate(0, 0, 0): 0; element(0, 0): NO_VALUE");
    }

    private void copyElements() {
        document.promise(35, "Copies elements from one array to another one, or within one array, as System.arraycopy does.",
                INTS + "copyElements(0, 1, 1, 0, 3): 3; elements(1): 2,3,4,0; elements(0): 1,2,3,4,5,6",
                // within one array, the elements are taken before one is overwritten
                INTS + "copyElements(0, 0, 0, 2, 4): 4; elements(0): 1,2,1,2,3,4",
                INTS + "copyElements(0, 2, 0, 0, 4): 4; elements(0): 3,4,5,6,5,6",
                INTS + "copyElements(0, 0, 0, 0, 6): 6; elements(0): 1,2,3,4,5,6",
                // the copy is not bound to what it was taken from
                INTS + "copyElements(0, 0, 1, 0, 4): 4; putElement(0, 0, 9): 1; elements(1): 1,2,3,4; release(0): 1; elements(1): 1,2,3,4");
        document.promise(35, "- `source`: the slot to copy from - `sourceIndex`: the index of the first element to copy"
                + " - `target`: the slot to copy to - `targetIndex`: the index of the first element to overwrite"
                + " - `count`: the number of elements",
                INTS + "copyElements(0, 5, 1, 3, 1): 1; elements(1): 0,0,0,6; copyElements(1, 2, 0, 0, 2): 2; elements(0): 0,6,3,4,5,6",
                FOUR + "putElement(0, 0, -3): 1; copyElements(0, 0, 0, 2, 1): 1; elements(0): -3,0,-3; putElement(1, 0, -3): 1;"
                + " copyElements(1, 0, 1, 1, 2): 2; elements(1): 65533,65533,0; putElement(3, 2, MAX): 1; copyElements(3, 2, 3, 0, 1): 1;"
                + " element(3, 0): 9223372036854775807");
        document.promise(35, "Returns the count;",
                INTS + "copyElements(0, 0, 1, 0, 0): 0; elements(1): 0,0,0,0; copyElements(0, 6, 1, 4, 0): 0;"
                + " copyElements(0, 2, 1, 0, 4): 4; elements(1): 3,4,5,6",
                "allocate(0, 3, 0): 0; copyElements(0, 0, 0, 0, 0): 0; copyElements(0, 0, 0, 0, 1): INDEX_OUT_OF_RANGE",
                "allocate(0, 3, 40): 40; allocate(3, 3, 40): 40; putElement(0, 39, 5): 1; copyElements(0, 0, 3, 0, 40): 40; element(3, 39): 5");
    }

    private void copyElementsRefused() {
        document.promise(35, "BAD_ARGUMENT if a slot is out of range (checked first);",
                "copyElements(4, 0, 0, 0, 0): BAD_ARGUMENT; copyElements(0, 0, 4, 0, 0): BAD_ARGUMENT; copyElements(-1, 0, 0, 0, 0): BAD_ARGUMENT;"
                + " copyElements(0, 0, -1, 0, 0): BAD_ARGUMENT; copyElements(MIN, -1, MAX, -1, -1): BAD_ARGUMENT",
                INTS + "copyElements(4, 0, 0, 0, 1): BAD_ARGUMENT; copyElements(0, -1, 4, 0, 1): BAD_ARGUMENT;"
                + " copyElements(2, 0, 4, 0, 1): BAD_ARGUMENT; elements(0): 1,2,3,4,5,6");
        document.promise(35, "EMPTY_SLOT if either slot is empty (checked second);",
                INTS + "copyElements(0, 0, 2, 0, 1): EMPTY_SLOT; copyElements(2, 0, 0, 0, 1): EMPTY_SLOT; copyElements(2, 0, 3, 0, 0): EMPTY_SLOT;"
                + " copyElements(2, 0, 2, 0, 0): EMPTY_SLOT; copyElements(0, -1, 3, -1, -1): EMPTY_SLOT; release(1): 1;"
                + " copyElements(0, 0, 1, 0, 1): EMPTY_SLOT; release(2): 0; elements(0): 1,2,3,4,5,6");
        document.promise(35, "WRONG_TYPE if the element types differ (checked third);",
                FOUR + "copyElements(0, 0, 1, 0, 1): WRONG_TYPE; copyElements(1, 0, 0, 0, 1): WRONG_TYPE; copyElements(1, 0, 2, 0, 1): WRONG_TYPE;"
                + " copyElements(2, 0, 3, 0, 1): WRONG_TYPE; copyElements(3, 0, 2, 0, 1): WRONG_TYPE; copyElements(0, 0, 3, 0, 0): WRONG_TYPE;"
                + " copyElements(0, -1, 3, 4, -1): WRONG_TYPE; copyElements(0, 0, 0, 0, 3): 3",
                // the type of the last array, not of the one before
                "allocate(0, 2, 1): 1; allocate(1, 3, 1): 1; copyElements(0, 0, 1, 0, 1): WRONG_TYPE; allocate(1, 2, 1): 1;"
                + " copyElements(0, 0, 1, 0, 1): 1");
        document.promise(35, "INDEX_OUT_OF_RANGE if an index or the count is negative, or an end is beyond the size of either array.",
                INTS + "copyElements(0, -1, 1, 0, 1): INDEX_OUT_OF_RANGE; copyElements(0, 0, 1, -1, 1): INDEX_OUT_OF_RANGE;"
                + " copyElements(0, 0, 1, 0, -1): INDEX_OUT_OF_RANGE; copyElements(0, -1, 1, 0, 0): INDEX_OUT_OF_RANGE;"
                + " copyElements(0, 0, 1, -1, 0): INDEX_OUT_OF_RANGE; copyElements(0, 6, 1, 4, -1): INDEX_OUT_OF_RANGE;"
                + " elements(1): 0,0,0,0",
                INTS + "copyElements(0, 3, 1, 0, 4): INDEX_OUT_OF_RANGE; copyElements(0, 0, 1, 1, 4): INDEX_OUT_OF_RANGE;"
                + " copyElements(0, 0, 1, 0, 5): INDEX_OUT_OF_RANGE; copyElements(1, 0, 0, 0, 5): INDEX_OUT_OF_RANGE;"
                + " copyElements(0, 7, 1, 0, 0): INDEX_OUT_OF_RANGE; copyElements(0, 0, 1, 5, 0): INDEX_OUT_OF_RANGE;"
                + " copyElements(0, 1, 0, 0, 6): INDEX_OUT_OF_RANGE; copyElements(0, 0, 0, 1, 6): INDEX_OUT_OF_RANGE;"
                + " elements(0): 1,2,3,4,5,6; elements(1): 0,0,0,0",
                INTS + "copyElements(0, MAX, 1, 0, 1): INDEX_OUT_OF_RANGE; copyElements(0, 0, 1, MAX, MAX): INDEX_OUT_OF_RANGE;"
                + " copyElements(0, 1, 1, 0, MAX): INDEX_OUT_OF_RANGE; copyElements(0, MAX, 1, MAX, MAX): INDEX_OUT_OF_RANGE;"
                + " copyElements(0, MIN, 1, MIN, MIN): INDEX_OUT_OF_RANGE; copyElements(0, MIN, 1, 0, MAX): INDEX_OUT_OF_RANGE;"
                + " copyElements(0, MAX, 1, 0, MIN): INDEX_OUT_OF_RANGE; elements(1): 0,0,0,0");
    }

    private void compareWithArray() {
        String alike = "read('4:0,3>1,1>2;1,4>1;0,2>0,2>1'): 3; allocate(0, 0, 9): 9; putElement(0, 1, 3): 1; putElement(0, 2, 1): 1;"
                + " putElement(0, 4, 4): 1; putElement(0, 6, 2): 1; putElement(0, 7, 2): 1; compareWithArray(0): NONE; ";
        document.promise(36, "Compares a byte array with the weights of the chain: element i * n + j with the weight from i to j.",
                alike + "swapStates(0, 1): 1; compareWithArray(0): 0; undo(): 0; compareWithArray(0): NONE; setLabel(0, 3): 0;"
                + " setDiscount(0, 1): 1; compareWithArray(0): NONE",
                "reset(6, 12): 2; allocate(0, 0, 36): 36; compareWithArray(0): 0; putElement(0, 0, 12): 1; compareWithArray(0): 7;"
                + " putElement(0, 7, 12): 1; putElement(0, 14, 12): 1; putElement(0, 21, 12): 1; putElement(0, 28, 12): 1;"
                + " compareWithArray(0): 35; putElement(0, 35, 12): 1; compareWithArray(0): NONE");
        document.promise(36, "- `slot`: the slot",
                "allocate(3, 0, 4): 4; putElement(3, 0, 1): 1; putElement(3, 3, 1): 1; compareWithArray(3): NONE; allocate(0, 0, 4): 4;"
                + " compareWithArray(0): 0; compareWithArray(4): BAD_ARGUMENT; compareWithArray(-1): BAD_ARGUMENT");
        document.promise(36, "Returns the lowest index at which the array has another value than the weight, or at which there is an"
                + " element but no weight or a weight but no element;",
                alike + "putElement(0, 8, -1): 1; compareWithArray(0): 8; putElement(0, 3, 1): 1; compareWithArray(0): 3;"
                + " putElement(0, 0, 1): 1; compareWithArray(0): 0",
                // too few elements
                alike + "allocate(1, 0, 8): 8; copyElements(0, 0, 1, 0, 8): 8; compareWithArray(1): 8; allocate(1, 0, 1): 1;"
                + " compareWithArray(1): 1; allocate(1, 0, 0): 0; compareWithArray(1): 0; allocate(1, 0, 2): 2; compareWithArray(1): 1",
                // too many elements
                alike + "allocate(1, 0, 10): 10; copyElements(0, 0, 1, 0, 9): 9; compareWithArray(1): 9; allocate(1, 0, 40): 40;"
                + " copyElements(0, 0, 1, 0, 9): 9; compareWithArray(1): 9; putElement(1, 5, 5): 1; compareWithArray(1): 5",
                "reset(1, 12): 2; allocate(0, 0, 2): 2; putElement(0, 0, 12): 1; compareWithArray(0): 1; allocate(0, 0, 1): 1;"
                + " compareWithArray(0): 0; putElement(0, 0, 12): 1; compareWithArray(0): NONE; reset(2, 12): 1; compareWithArray(0): 1");
        document.promise(36, "NONE if there is no such index;",
                alike + "putElement(0, 7, 258): 1; compareWithArray(0): NONE; putElement(0, 7, -254): 1; compareWithArray(0): NONE;"
                + " compareWithArray(0): NONE; elements(0): 0,3,1,0,4,0,2,2,0");
    }

    private void compareWithArrayRefused() {
        document.promise(36, "BAD_ARGUMENT if the slot is out of range (checked first);",
                "compareWithArray(4): BAD_ARGUMENT; compareWithArray(-1): BAD_ARGUMENT; compareWithArray(MIN): BAD_ARGUMENT;"
                + " compareWithArray(MAX): BAD_ARGUMENT");
        document.promise(36, "EMPTY_SLOT (checked second);",
                "compareWithArray(0): EMPTY_SLOT; compareWithArray(3): EMPTY_SLOT; allocate(0, 2, 4): 4; compareWithArray(0): WRONG_TYPE;"
                + " release(0): 1; compareWithArray(0): EMPTY_SLOT");
        document.promise(36, "WRONG_TYPE if the array is not a byte array.",
                "allocate(0, 1, 4): 4; compareWithArray(0): WRONG_TYPE; allocate(0, 2, 4): 4; compareWithArray(0): WRONG_TYPE;"
                + " allocate(0, 3, 4): 4; compareWithArray(0): WRONG_TYPE; allocate(0, 3, 0): 0; compareWithArray(0): WRONG_TYPE;"
                + " allocate(0, 0, 4): 4; compareWithArray(0): 0");
    }
}
