import java.io.IOException;
import java.lang.reflect.Constructor;
import java.lang.reflect.Field;
import java.lang.reflect.Method;
import java.lang.reflect.Modifier;
import java.lang.reflect.Parameter;
import java.nio.file.Files;
import java.nio.file.Path;
import java.util.ArrayList;
import java.util.HashSet;
import java.util.List;
import java.util.Set;
import java.util.TreeSet;
import java.util.regex.Matcher;
import java.util.regex.Pattern;

/** The public face, and the rules of LANGUAGE.md that can be seen in the text or in the compiled class. */
public final class RulesTest {
    private static final Path SOURCE = Path.of("src/main/java/MarkovChainDistances.java");
    private static final Path DOCUMENT = Path.of("../shared/DOC.md");
    private static final Pattern HEADER = Pattern.compile("^ {4}(?: {4})?((?:public |private |static |final )*)([\\w\\[\\]]+ )?(\\w+)\\(.*\\) \\{$");

    private static int wrong = 0;

    private static void check(boolean holds, String rule) {
        if (!holds) {
            wrong++;
            System.out.println(rule);
        }
    }

    public static void main(String[] args) throws IOException {
        face();
        members();
        words();
        methods();
        System.out.println(wrong == 0 ? "all rules are kept" : wrong + " rules are broken");
        if (wrong != 0) {
            System.exit(1);
        }
    }

    private static void face() throws IOException {
        Set<String> promised = new TreeSet<>();
        for (String line : Files.readAllLines(DOCUMENT)) {
            if (line.startsWith("    public ")) {
                promised.add(line.trim().replaceAll(" = .*;", "").replace("int ", "int#").replaceAll("#(\\w+)(?=[,)])", "")
                        .replace("int#", "int ").replaceAll("long \\w+(?=[,)])", "long").replace(";", ""));
            }
        }
        Set<String> found = new TreeSet<>();
        for (Field field : MarkovChainDistances.class.getDeclaredFields()) {
            if (!Modifier.isPrivate(field.getModifiers())) {
                found.add(Modifier.toString(field.getModifiers()) + " " + field.getType() + " " + field.getName());
            }
        }
        for (Constructor<?> constructor : MarkovChainDistances.class.getDeclaredConstructors()) {
            found.add("public " + constructor.getName() + types(constructor.getParameters()));
        }
        for (Method method : MarkovChainDistances.class.getDeclaredMethods()) {
            if (!Modifier.isPrivate(method.getModifiers())) {
                found.add(Modifier.toString(method.getModifiers()) + " " + method.getReturnType() + " " + method.getName() + types(method.getParameters()));
            }
        }
        check(promised.equals(found), "the face is " + found + ", promised is " + promised);
        check(promised.size() == 51, "the document's face has " + promised.size() + " members");
        check(Modifier.toString(MarkovChainDistances.class.getModifiers()).equals("public final"), "the class is public and final");
    }

    private static String types(Parameter[] parameters) {
        List<String> types = new ArrayList<>();
        for (Parameter parameter : parameters) {
            types.add(parameter.getType().toString());
        }
        return "(" + String.join(", ", types) + ")";
    }

    private static void members() {
        List<Class<?>> classes = new ArrayList<>(List.of(MarkovChainDistances.class.getDeclaredClasses()));
        classes.add(MarkovChainDistances.class);
        check(classes.size() <= 12, "there are " + classes.size() + " classes");
        Set<String> publicNames = new HashSet<>();
        for (Method method : MarkovChainDistances.class.getDeclaredMethods()) {
            if (Modifier.isPublic(method.getModifiers())) {
                publicNames.add(method.getName());
            }
        }
        for (Class<?> each : classes) {
            boolean inside = each != MarkovChainDistances.class;
            check(!inside || Modifier.isStatic(each.getModifiers()), each + " is not static");
            int fields = 0;
            for (Field field : each.getDeclaredFields()) {
                boolean isStatic = Modifier.isStatic(field.getModifiers());
                check(!isStatic || Modifier.isFinal(field.getModifiers()), field + " is static, but not final");
                fields += isStatic ? 0 : 1;
            }
            check(fields <= 20, each + " has " + fields + " fields");
            for (Method method : each.getDeclaredMethods()) {
                check(method.getParameterCount() <= 7, method + " has many parameters");
                boolean own = inside || Modifier.isPrivate(method.getModifiers());
                check(!own || !publicNames.contains(method.getName()), method + " bears a public name");
            }
        }
    }

    private static void words() throws IOException {
        String text = Files.readString(SOURCE);
        check(text.chars().allMatch(c -> c == '\n' || c >= 32 && c < 127), "the text has a sign that is not plain");
        String code = text.replaceAll("(?s)/\\*.*?\\*/", "").replaceAll("//[^\n]*", "");
        String[] ruledOut = {"package", "import", "throw", "throws", "try", "catch", "finally", "synchronized", "assert", "native",
            "volatile", "transient", "protected", "Object", "\\w+Exact", "Thread", "Runtime", "Random", "nanoTime", "currentTimeMillis"};
        for (String word : ruledOut) {
            check(!Pattern.compile("\\b" + word + "\\b").matcher(code).find(), "the class uses " + word);
        }
        check(!code.contains("->") && !code.contains("::"), "the class has a lambda or a method reference");
        check(!Pattern.compile("while \\(true\\)|for \\(;;|for \\([^;]*;\\s*;").matcher(code).find(), "a loop has no end that can be seen");
        Matcher library = Pattern.compile("\\b(System|Math|Integer|Long)\\.(\\w+)").matcher(code);
        Set<String> known = Set.of("System.arraycopy", "Math.min", "Math.max", "Math.abs", "Long.MIN_VALUE", "Long.MAX_VALUE");
        while (library.find()) {
            check(known.contains(library.group()), "the class uses " + library.group());
        }
    }

    /** Methods stay short, and objects are made by constructors alone: what a run of calls makes can't grow. */
    private static void methods() throws IOException {
        boolean inConstructor = false;
        String name = "";
        int start = -1;
        List<String> lines = Files.readAllLines(SOURCE);
        int seen = 0;
        for (int i = 0; i < lines.size(); i++) {
            Matcher header = HEADER.matcher(lines.get(i));
            if (header.matches()) {
                inConstructor = header.group(2) == null;
                name = header.group(3);
                start = i;
                seen++;
            }
            boolean lastLine = start >= 0 && lines.get(i).matches(" {4}(?: {4})?\\}");
            check(!lastLine || i - start < 60, name + " is long");
            boolean makes = lines.get(i).matches(".*\\bnew [A-Za-z].*") && !lines.get(i).trim().matches("(\\*|/\\*|//).*");
            check(!makes || inConstructor, name + " makes an object: " + lines.get(i).trim());
            start = lastLine ? -1 : start;
        }
        check(seen > 60, "only " + seen + " methods were seen");
    }
}
