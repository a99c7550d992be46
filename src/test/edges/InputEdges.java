import java.util.ArrayList;
import java.util.List;

/** Promises 28 to 30: the input buffer and the text of a chain. */
final class InputEdges {
    /** A chain in 80 bytes and one in 79. */
    private static final String EIGHTY = "12:0" + ",1>0".repeat(12) + ",0>0".repeat(7);
    private static final String SEVENTY_NINE = "1:0,1>0" + ",0>0".repeat(18);

    private static final String SIX = "1:0,1>0;0,1>1;0,1>2;0,1>3;0,1>4;0,1>5";

    private final Sentences document;

    InputEdges(Sentences document) {
        this.document = document;
    }

    void run() {
        append();
        appendRefused();
        clearInput();
        parse();
        grammar();
        digits();
        malformed();
        inconsistent();
        chainStays();
    }

    private void append() {
        document.promise(28, "Appends bytes to the input buffer: the lowest bytes of an integer, the most significant of them"
                + " first.",
                // 1:0, and 1>0
                "append(825897004, 4): 4; append(3227184, 3): 7; parse(): 1; weights(): 1",
                // the same with other bytes above those that are appended
                "append(825897004, 4): 4; append(-13550032, 3): 7; parse(): 1; weights(): 1",
                // 1 0 in 2 bytes, and 0 alone
                "setLabel(1, 1): 0; moveWeight(0, 0, 1, 1): 1; append(12337, 2): 2; sequenceWeight(0): 1; append(12592, 1): 1;"
                + " sequenceWeight(0): 1; append(12592, 2): 2; sequenceWeight(1): 0; append(12592, 2): 2; sequenceWeight(0): 0");
        document.promise(28, "The bytes must be at most 127.",
                "append(127, 1): 1; append(32639, 2): 3; append(8355711, 3): 6; append(2139062143, 4): 10; append(0, 4): 14;"
                + " append(128, 1): BAD_ARGUMENT; append(32768, 2): BAD_ARGUMENT; append(8388608, 3): BAD_ARGUMENT;"
                + " append(MIN, 4): BAD_ARGUMENT; append(-1, 1): BAD_ARGUMENT; append(255, 2): BAD_ARGUMENT; clearInput(): 14");
        document.promise(28, "- `bytes`: the integer that holds the bytes",
                "append(32768, 1): 1; append(8388608, 2): 3; append(MIN, 3): 6; append(-256, 1): 7; append(-65536, 2): 9;"
                + " append(-16777216, 3): 12; append(MAX, 4): BAD_ARGUMENT; append(-16777216, 4): BAD_ARGUMENT; clearInput(): 12");
        document.promise(28, "- `count`: the number of bytes to append, 1 to 4",
                "append(808464432, 0): BAD_ARGUMENT; append(808464432, 1): 1; append(808464432, 2): 3; append(808464432, 3): 6;"
                + " append(808464432, 4): 10; append(808464432, 5): BAD_ARGUMENT; clearInput(): 10");
        document.promise(28, "Returns the number of bytes in the input buffer;",
                "append(48, 1): 1; append(48, 1): 2; append(12336, 2): 4; sequenceWeight(0): 1; append(48, 1): 1; clearInput(): 1;"
                + " append(12336, 2): 2; parse(): -1002; append(48, 1): 1");
    }

    private void appendRefused() {
        document.promise(28, "BAD_ARGUMENT if the count is out of range or a byte is above 127 (checked first);",
                "append(0, -1): BAD_ARGUMENT; append(0, MIN): BAD_ARGUMENT; append(0, MAX): BAD_ARGUMENT; clearInput(): 0",
                "append(8405040, 3): BAD_ARGUMENT; append(12464, 1): BAD_ARGUMENT; clearInput(): 0",
                "typed('" + EIGHTY + "'): 80; append(128, 1): BAD_ARGUMENT; append(48, 0): BAD_ARGUMENT; append(48, 5): BAD_ARGUMENT;"
                + " append(48, 1): BUFFER_FULL; parse(): 1",
                "typed('" + SEVENTY_NINE + "'): 79; append(32768, 2): BAD_ARGUMENT; append(48, 2): BUFFER_FULL; parse(): 1");
        document.promise(28, "BUFFER_FULL if the buffer would hold more than 80 bytes.",
                "typed('" + SEVENTY_NINE + "'): 79; append(808464432, 2): BUFFER_FULL; append(808464432, 4): BUFFER_FULL;"
                + " parse(): 1; clearInput(): 0",
                "typed('" + EIGHTY + "'): 80; append(48, 1): BUFFER_FULL; append(48, 4): BUFFER_FULL; parse(): 1; resolution(): 12",
                "typed('" + "0".repeat(76) + "'): 76; append(808464432, 4): 80; append(0, 1): BUFFER_FULL; clearInput(): 80",
                "typed('" + "0".repeat(77) + "'): 77; append(808464432, 4): BUFFER_FULL; append(808464432, 3): 80; clearInput(): 80",
                "typed('" + "0".repeat(78) + "'): 78; append(808464432, 3): BUFFER_FULL; append(808464432, 2): 80; clearInput(): 80",
                "typed('" + "0".repeat(79) + "'): 79; append(808464432, 2): BUFFER_FULL; append(808464432, 1): 80; clearInput(): 80;"
                + " append(48, 1): 1");
    }

    private void clearInput() {
        document.promise(29, "Empties the input buffer.",
                "typed('00'): 2; clearInput(): 2; sequenceWeight(0): NO_VALUE; typed('00'): 2; clearInput(): 2; parse(): -1000",
                "typed('9'): 1; clearInput(): 1; read('1:0,1>0'): 1",
                "setLabel(0, 1): 0; typed('9'): 1; clearInput(): 1; labels(): 1,0; editCount(): 1");
        document.promise(29, "Returns the number of bytes it held.",
                "clearInput(): 0; clearInput(): 0; append(48, 1): 1; clearInput(): 1; clearInput(): 0; typed('" + EIGHTY
                + "'): 80; append(48, 1): BUFFER_FULL; clearInput(): 80; clearInput(): 0");
    }

    private void parse() {
        document.promise(30, "Parses the input buffer as a chain and replaces the chain by it; the discount stays.",
                "setDiscount(1, 2): 1; read('4:3,2>0,2>1;2,4>1'): 2; states(): 2; resolution(): 4; labels(): 3,2; weights(): 2,2,0,4;"
                + " maximumDepth(): 16; setDiscount(1, 2): 0; editCount(): 0; clearInput(): 0",
                "reset(6, 12): 2; read('1:2,1>0'): 1; states(): 1; labels(): 2; label(1): NO_SUCH_STATE; reset(2, 3): 1;"
                + " labels(): 0,0; weights(): 3,0,0,3",
                "read('" + EIGHTY + "'): 1; weights(): 12");
        document.promise(30, "There are 1 to 6 states, numbered from 0 as they are written.",
                "read('1:3,1>0'): 1; labels(): 3",
                "read('2:0,2>5;1,2>4;2,2>3;3,2>2;2,2>1;1,2>0'): 6; labels(): 0,1,2,3,2,1; weights(): 0,0,0,0,0,2,0,0,0,0,2,0,"
                + "0,0,0,2,0,0,0,0,2,0,0,0,0,2,0,0,0,0,2,0,0,0,0,0",
                "read('1:'): -1002; read('" + SIX + "'): 6; read('" + SIX + ";0,1>0'): -1037");
        document.promise(30, "An edge gives a weight to a successor; the weights of several edges to the same successor are added.",
                "read('04:3,00>0,1>0,02>1,1>0;2,4>1'): 2; weights(): 2,2,0,4",
                "read('12:0,5>1,1>0,4>1,2>1;0,0>0,12>1,0>0'): 2; weights(): 1,11,0,12",
                "read('2:0,1>0,1>0,1>0'): INCONSISTENT");
        document.promise(30, "Returns the number of states;",
                "read('1:0,1>0'): 1; read('1:0,1>0;0,1>1'): 2; read('1:0,1>0;0,1>1;0,1>2'): 3; read('1:0,1>0;0,1>1;0,1>2;0,1>3'): 4;"
                + " read('1:0,1>0;0,1>1;0,1>2;0,1>3;0,1>4'): 5; read('" + SIX + "'): 6");
    }

    private void grammar() {
        document.promise(30, "The grammar is: chain = resolution \":\" state { \";\" state }; state = label edge { edge };"
                + " edge = \",\" number \">\" successor; resolution and number have 1 or 2 digits, label and successor have 1 digit.",
                "read('1:0,1>0'): 1; read('01:0,01>0'): 1; read('12:3,12>0'): 1; read('1:0,0>0,1>0,00>0'): 1",
                "read(':0,1>0'): -1000; read('1,0,1>0'): -1001; read('1:,1>0'): -1002; read('1:01>0'): -1003; read('1:0,>0'): -1004;"
                + " read('1:0,10'): -1006; read('1:0,1>'): -1006; read('1:0,1>;'): -1006; read('1:0,1>0:'): -1007",
                // a state needs an edge
                "read('1:0'): -1003; read('1:0;0,1>0'): -1003; read('1:0,1>0;0'): -1009; read('1:0,1>0;0;'): -1009",
                "read('001:0,1>0'): -1002; read('1:0,001>0'): -1006; read('1:00,1>0'): -1003; read('1:0,1>00'): -1007");
        document.promise(30, "There are no spaces.",
                "read(' 1:0,1>0'): -1000; read('1 :0,1>0'): -1001; read('1: 0,1>0'): -1002; read('1:0 ,1>0'): -1003;"
                + " read('1:0, 1>0'): -1004; read('1:0,1 >0'): -1005; read('1:0,1> 0'): -1006; read('1:0,1>0 '): -1007;"
                + " read('1:0,1>0 ;0,1>0'): -1007; read('1:0,1>0; 0,1>0'): -1008");
    }

    private void digits() {
        document.promise(30, "The parser reads from left to right and takes digits as long as it can.",
                "read('1'): -1001; read('12'): -1002; read('123'): -1002; read('123:0,1>0'): -1002; read('12:'): -1003",
                "read('1:0,1'): -1005; read('1:0,12'): -1006; read('1:0,123'): -1006; read('1:0,123>0'): -1006;"
                + " read('1:00'): -1003; read('1:0,1>00'): -1007; read('1:0,1>0,1>01'): -1011",
                // what is malformed first tells, whatever stands after it or is inconsistent before
                "read('x:x'): -1000; read('0:9,0>9;'): -1008; read('99:9,99>9;x'): -1010; read('1:0x0;;'): -1003");
    }

    private void malformed() {
        String text = "12:3,04>0,8>1;0,12>1";
        document.promise(30, "-1000 minus the position if the text is malformed.",
                "parse(): -1000; read('x'): -1000; read('1x'): -1001; read('12x'): -1002; read('12:x'): -1003;"
                + " read('" + EIGHTY.substring(0, 79) + "'): -1079; read('" + EIGHTY.substring(0, 79) + "x'): -1079");
        document.promise(30, "The position, from 0, is that of the first byte that no well-formed text can have there,"
                + " or the length of the text if it ends too early;",
                spoiled(text), cut(text),
                "append(0, 1): 1; parse(): -1000; append(12544, 2): 2; parse(): -1001; append(127, 1): 1; parse(): -1000",
                // the signs before 0 and after 9
                "read('/'): -1000; read('1/'): -1001; read('1;'): -1001; read('1:/'): -1002; read('1::'): -1002",
                // a full buffer that ends too early
                "typed('" + EIGHTY.replace("12:0", "12:0,00>0").substring(0, 80) + "'): 80; parse(): -1080");
        document.promise(30, "a \";\" after the sixth state is malformed.",
                "read('" + SIX + "'): 6; read('" + SIX + ";'): -1037; read('" + SIX + ";0,1>0'): -1037; read('" + SIX
                + ",0>0'): 6; read('" + SIX + ",0>0;'): -1041",
                "read('1:0,1>0;0,1>1;0,1>2;0,1>3;0,1>4;'): -1032");
    }

    /** The text up to each position, with a sign there that no text has. */
    private static String spoiled(String text) {
        List<String> steps = new ArrayList<>();
        for (int position = 0; position <= text.length(); position++) {
            steps.add("read('" + text.substring(0, position) + "x'): " + (-1000 - position));
        }
        return String.join("; ", steps);
    }

    /** The text that ends before each position; where a whole edge stands before it, it is well-formed. */
    private static String cut(String text) {
        List<String> steps = new ArrayList<>();
        for (int position = 1; position < text.length(); position++) {
            String start = text.substring(0, position);
            boolean wellFormed = start.matches(".*>[0-9]");
            steps.add("read('" + start + "'): " + (wellFormed ? "INCONSISTENT" : String.valueOf(-1000 - position)));
        }
        return String.join("; ", steps);
    }

    private void inconsistent() {
        document.promise(30, "INCONSISTENT if the text is well-formed, but the resolution is not from 1 to 12, a label is above 3,"
                + " a successor is not a state, or the weights from some state do not add up to the resolution.",
                "read('0:0,0>0'): INCONSISTENT; read('00:0,0>0'): INCONSISTENT; read('1:0,1>0'): 1; read('12:0,12>0'): 1;"
                + " read('13:0,13>0'): INCONSISTENT; read('99:0,99>0'): INCONSISTENT",
                "read('1:3,1>0'): 1; read('1:4,1>0'): INCONSISTENT; read('1:9,1>0'): INCONSISTENT;"
                + " read('1:0,1>0;4,1>0'): INCONSISTENT; read('1:4,1>0;0,1>0'): INCONSISTENT; labels(): 3",
                "read('1:0,1>1'): INCONSISTENT; read('1:0,1>9'): INCONSISTENT; read('1:0,1>0,0>1'): INCONSISTENT;"
                + " read('1:0,1>0,0>9'): INCONSISTENT; read('1:0,1>1;0,1>0'): 2; read('1:0,1>2;0,1>0'): INCONSISTENT;"
                + " read('1:0,1>0;0,1>2'): INCONSISTENT; read('1:0,1>0,0>2;0,1>1'): INCONSISTENT; read('" + SIX
                + ",0>6'): INCONSISTENT; read('" + SIX + ",0>5'): 6",
                "read('2:0,1>0'): INCONSISTENT; read('2:0,3>0'): INCONSISTENT; read('2:0,1>0,2>0'): INCONSISTENT;"
                + " read('2:0,0>0'): INCONSISTENT; read('2:0,2>0;0,1>1'): INCONSISTENT; read('2:0,1>0;0,2>1'): INCONSISTENT;"
                + " read('2:0,2>0;0,2>0,1>1'): INCONSISTENT; read('2:0,99>0'): INCONSISTENT; read('2:0,2>0;0,1>0,1>1'): 2",
                "read('12:0" + ",99>0".repeat(15) + "'): INCONSISTENT",
                "read('99:9,99>9;9,99>9;9,99>9;9,99>9;9,99>9;9,99>9'): INCONSISTENT");
    }

    private void chainStays() {
        String kept = "states(): 2; resolution(): 4; labels(): 3,2; weights(): 2,2,1,3; editCount(): 2; setDiscount(1, 3): 0;"
                + " clearInput(): 0; ";
        document.promise(30, "The chain stays on an error.",
                "read('4:3,2>0,2>1;2,4>1'): 2; moveWeight(1, 1, 0, 1): 1; setDiscount(1, 3): 1; " + kept
                + "read('2:1,2>0;'): -1008; " + kept + "read('2:1,2>1'): INCONSISTENT; " + kept + "parse(): -1000; " + kept
                + "read('2:1,2>0;1,1>1'): INCONSISTENT; " + kept + "read('3:0,3>1;1,3>2;4,3>0'): INCONSISTENT; " + kept
                + "undo(): 1; undo(): 0; weights(): 2,2,0,4",
                // an error leaves nothing that a later text takes over
                "read('5:3,5>0,5>1,5>2;3,5>5;3,5>3'): INCONSISTENT; read('1:1,9>0,9>0;x'): -1012; read('1:0,1>0;1,1>1'): 2;"
                + " labels(): 0,1; weights(): 1,0,0,1");
    }
}
