import java.util.List;
import java.util.StringJoiner;

/** The words of a script that stand for several calls; any other word is a method of the class. */
final class OwnWords {
    private final Script script;

    OwnWords(Script script) {
        this.script = script;
    }

    String answer(String word, List<String> arguments) {
        return switch (word) {
            case "typed" -> String.valueOf(typed(arguments.get(0)));
            case "read" -> String.valueOf(read(arguments.get(0)));
            case "weighed" -> String.valueOf(weighed(number(arguments, 0), arguments.get(1)));
            case "labels" -> labels();
            case "weights" -> weights();
            case "classes" -> classes();
            case "distance" -> distance(number(arguments, 0), number(arguments, 1), number(arguments, 2));
            case "wholeCoupling" -> wholeCoupling(number(arguments, 0), number(arguments, 1));
            case "elements" -> elements(number(arguments, 0));
            default -> String.valueOf(script.call(word, arguments));
        };
    }

    private static int number(List<String> arguments, int place) {
        return Integer.parseInt(arguments.get(place));
    }

    /** Appends a text, and answers the last answer of append. */
    private long typed(String text) {
        long answer = 0;
        int start = 0;
        while (start < text.length()) {
            int count = Math.min(4, text.length() - start);
            int bytes = 0;
            for (int i = start; i < start + count; i++) {
                bytes = bytes << 8 | text.charAt(i);
            }
            answer = script.call("append", bytes, count);
            start += count;
        }
        return answer;
    }

    /** Appends a text, and parses it. */
    private long read(String text) {
        typed(text);
        return script.call("parse");
    }

    /** Appends a label sequence, and asks its weight. */
    private long weighed(int state, String sequence) {
        typed(sequence);
        return script.call("sequenceWeight", state);
    }

    private String labels() {
        StringJoiner all = new StringJoiner(",");
        long n = script.call("states");
        for (int state = 0; state < n; state++) {
            all.add(String.valueOf(script.call("label", state)));
        }
        return all.toString();
    }

    private String weights() {
        StringJoiner all = new StringJoiner(",");
        long n = script.call("states");
        for (int from = 0; from < n; from++) {
            for (int to = 0; to < n; to++) {
                all.add(String.valueOf(script.call("weight", from, to)));
            }
        }
        return all.toString();
    }

    private String classes() {
        StringJoiner all = new StringJoiner(",");
        long n = script.call("states");
        for (int state = 0; state < n; state++) {
            all.add(String.valueOf(script.call("bisimulationClass", state)));
        }
        return all.toString();
    }

    private String distance(int depth, int first, int second) {
        return script.call("distanceNumerator", depth, first, second) + "/"
                + script.call("distanceDenominator", depth, first, second);
    }

    private String wholeCoupling(int depth, int pair) {
        StringJoiner all = new StringJoiner(",");
        long n = script.call("states");
        for (int row = 0; row < n; row++) {
            for (int column = 0; column < n; column++) {
                all.add(String.valueOf(script.call("coupling", depth, pair, row, column)));
            }
        }
        return all.toString();
    }

    /** The elements up to the first index without a value. */
    private String elements(int slot) {
        StringJoiner all = new StringJoiner(",");
        all.setEmptyValue("none");
        long element = script.call("element", slot, 0);
        for (int index = 1; element != Long.MIN_VALUE; index++) {
            all.add(String.valueOf(element));
            element = script.call("element", slot, index);
        }
        return all.toString();
    }
}
