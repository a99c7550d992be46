import java.lang.reflect.InvocationTargetException;
import java.lang.reflect.Method;
import java.util.ArrayList;
import java.util.List;
import java.util.Map;
import java.util.regex.Matcher;
import java.util.regex.Pattern;

/**
 * A run of calls on a new object, in the notation of the document's examples: "reset(3, 4): 2; states(): 3". An
 * answer may be the name of a constant; MIN and MAX are the least and the greatest int, or long where one is due.
 * Besides the class's own methods there are a few words that ask several calls at once (see OwnWords).
 */
final class Script {
    private static final Pattern STEP = Pattern.compile("\\G[;\\s]*(\\w+)\\(((?:'[^']*'|[^()'])*)\\):\\s+([^\\s;]+)");
    private static final Pattern ARGUMENT = Pattern.compile("'([^']*)'|[^\\s,]+");
    private static final int MAX_CALLS = 512;

    // Written out here, so that a constant of the class that has another value is found out.
    private static final Map<String, Long> CONSTANTS = Map.ofEntries(
            Map.entry("BAD_ARGUMENT", -1L), Map.entry("NO_SUCH_STATE", -2L), Map.entry("INSUFFICIENT_WEIGHT", -3L),
            Map.entry("DEPTH_UNSUPPORTED", -4L), Map.entry("NOTHING_TO_UNDO", -5L), Map.entry("BUFFER_FULL", -6L),
            Map.entry("NONE", -7L), Map.entry("INCONSISTENT", -8L), Map.entry("EMPTY_SLOT", -11L),
            Map.entry("WRONG_TYPE", -12L), Map.entry("INDEX_OUT_OF_RANGE", -13L), Map.entry("NEGATIVE_SIZE", -14L),
            Map.entry("NO_VALUE", Long.MIN_VALUE));

    private final String text;
    private final List<String> complaints = new ArrayList<>();
    private final MarkovChainDistances calculator = new MarkovChainDistances();
    private int calls = 0;

    Script(String text) {
        this.text = text;
    }

    /** Runs the calls, and answers a line for each one whose answer is not as due. */
    List<String> run() {
        Matcher step = STEP.matcher(text);
        int end = 0;
        while (step.find()) {
            end = step.end();
            runStep(step.group(1), arguments(step.group(2)), step.group(3));
        }
        if (end == 0 || !text.substring(end).matches("[;\\s]*")) {
            complaints.add("the script can't be read from here on: " + text.substring(end));
        }
        if (calls > MAX_CALLS) {
            complaints.add("the script has more than " + MAX_CALLS + " calls: " + calls);
        }
        return complaints;
    }

    private void runStep(String name, List<String> arguments, String due) {
        String wanted = CONSTANTS.containsKey(due) ? String.valueOf(CONSTANTS.get(due)) : due;
        String got = new OwnWords(this).answer(name, arguments);
        if (!got.equals(wanted)) {
            complaints.add(name + "(" + String.join(", ", arguments) + ") answered " + got + ", due is " + due);
        }
    }

    private static List<String> arguments(String list) {
        List<String> found = new ArrayList<>();
        Matcher argument = ARGUMENT.matcher(list);
        while (argument.find()) {
            found.add(argument.group(1) != null ? argument.group(1) : argument.group());
        }
        return found;
    }

    long call(String name, List<String> arguments) {
        calls++;
        for (Method method : MarkovChainDistances.class.getDeclaredMethods()) {
            if (method.getName().equals(name) && method.getParameterCount() == arguments.size()) {
                return invoke(method, arguments);
            }
        }
        throw new IllegalArgumentException("the face has no " + name + arguments);
    }

    long call(String name, int... arguments) {
        List<String> texts = new ArrayList<>();
        for (int argument : arguments) {
            texts.add(String.valueOf(argument));
        }
        return call(name, texts);
    }

    private long invoke(Method method, List<String> arguments) {
        Object[] values = new Object[arguments.size()];
        for (int i = 0; i < values.length; i++) {
            boolean isLong = method.getParameterTypes()[i] == long.class;
            values[i] = isLong ? (Object) longValue(arguments.get(i)) : (Object) intValue(arguments.get(i));
        }
        try {
            return ((Number) method.invoke(calculator, values)).longValue();
        } catch (InvocationTargetException thrown) {
            throw new IllegalStateException(method.getName() + arguments + " threw", thrown.getCause());
        } catch (IllegalAccessException closed) {
            throw new IllegalStateException(method.getName() + " is not public", closed);
        }
    }

    private static long longValue(String argument) {
        return switch (argument) {
            case "MIN" -> Long.MIN_VALUE;
            case "MAX" -> Long.MAX_VALUE;
            default -> Long.parseLong(argument);
        };
    }

    private static int intValue(String argument) {
        return switch (argument) {
            case "MIN" -> Integer.MIN_VALUE;
            case "MAX" -> Integer.MAX_VALUE;
            default -> Integer.parseInt(argument);
        };
    }
}
