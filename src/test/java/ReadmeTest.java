import java.lang.reflect.Field;
import java.lang.reflect.Method;
import java.lang.reflect.Modifier;
import java.nio.file.Files;
import java.nio.file.Path;
import java.util.ArrayList;
import java.util.Collections;
import java.util.LinkedHashMap;
import java.util.List;
import java.util.Map;
import java.util.TreeMap;
import java.util.regex.Matcher;
import java.util.regex.Pattern;

/**
 * README.md must not tell what the class does not do: its example is carried out, its calls with their errors
 * are compared with the document, its constants with the class. The second argument is the document, the
 * third one README.md.
 */
public final class ReadmeTest {
    private static final Pattern EXAMPLE = Pattern.compile("^palace\\.(\\w+)\\((.*)\\); *// (-?\\d+):.*");
    private static final Pattern CALL_ROW = Pattern.compile("^\\| `(\\w+\\([^)]*\\))` \\|[^|]*\\|([^|]*)\\|$");
    private static final Pattern CONSTANT_ROW = Pattern.compile("^\\| `([A-Z_]+)` \\| (-?\\d+) \\|.*");
    private static final Pattern SIGNATURE = Pattern.compile("^`int (\\w+\\([^)]*\\))`:.*");
    private static final Pattern CONSTANT = Pattern.compile("\\b(UNKNOWN|OUT_OF_RANGE|FULL|NOT_POSSIBLE|NONE|REFUSED)\\b");

    private static int wrong = 0;

    public static void main(String[] args) throws Exception {
        List<String> document = Files.readAllLines(Path.of(args[1]));
        List<String> readme = Files.readAllLines(Path.of(args[2]));
        exampleAnswersAsItSays(readme);
        same("the calls and their errors", callsOfReadme(readme), callsOfDocument(document));
        same("the constants", constantsOfReadme(readme), constantsOfClass());
        System.out.println("ReadmeTest: " + (wrong == 0 ? "README.md tells what is so" : wrong + " wrong"));
        if (wrong != 0) {
            System.exit(1);
        }
    }

    private static void same(String what, Map<String, ?> told, Map<String, ?> due) {
        if (due.isEmpty() || !told.equals(due) || !new ArrayList<>(told.keySet()).equals(new ArrayList<>(due.keySet()))) {
            wrong++;
            System.out.println(what + ":\n  told is " + told + "\n  due is  " + due);
        }
    }

    // ---- the example

    private static void exampleAnswersAsItSays(List<String> readme) throws Exception {
        TwinSuites palace = new TwinSuites();
        int calls = 0;
        for (String line : readme) {
            Matcher matcher = EXAMPLE.matcher(line);
            if (matcher.matches()) {
                calls++;
                int got = called(palace, matcher.group(1), matcher.group(2));
                if (got != Integer.parseInt(matcher.group(3))) {
                    wrong++;
                    System.out.println(line + "\n  answered " + got);
                }
            } else if (line.startsWith("palace.")) {
                wrong++;
                System.out.println(line + "\n  tells no answer");
            }
        }
        if (calls == 0) {
            wrong++;
            System.out.println("there is no example");
        }
    }

    private static int called(TwinSuites palace, String name, String arguments) throws Exception {
        if (arguments.startsWith("'")) {
            return (int) TwinSuites.class.getMethod(name, char.class).invoke(palace, arguments.charAt(1));
        }
        String[] numbers = arguments.isEmpty() ? new String[0] : arguments.split(", ");
        Class<?>[] types = Collections.nCopies(numbers.length, int.class).toArray(new Class<?>[0]);
        Object[] values = new Object[numbers.length];
        for (int i = 0; i < numbers.length; i++) {
            values[i] = Integer.parseInt(numbers[i]);
        }
        Method method = TwinSuites.class.getMethod(name, types);
        return (int) method.invoke(palace, values);
    }

    // ---- the calls, each with its errors in their order

    private static Map<String, List<String>> callsOfReadme(List<String> readme) {
        Map<String, List<String>> calls = new LinkedHashMap<>();
        for (String line : readme) {
            Matcher matcher = CALL_ROW.matcher(line);
            if (matcher.matches()) {
                calls.put(matcher.group(1), constantsIn(matcher.group(2)));
            }
        }
        return calls;
    }

    private static Map<String, List<String>> callsOfDocument(List<String> document) {
        Map<String, List<String>> calls = new LinkedHashMap<>();
        String call = "";
        for (String line : document) {
            Matcher matcher = SIGNATURE.matcher(line);
            if (matcher.matches()) {
                call = matcher.group(1).replaceAll("\\b(int|char) ", "");
            }
            if (line.startsWith("Returns ") && !call.isEmpty()) {
                calls.put(call, constantsIn(line));
            }
        }
        return calls;
    }

    private static List<String> constantsIn(String text) {
        List<String> found = new ArrayList<>();
        Matcher matcher = CONSTANT.matcher(text);
        while (matcher.find()) {
            found.add(matcher.group());
        }
        return found;
    }

    // ---- the constants

    private static Map<String, Integer> constantsOfReadme(List<String> readme) {
        Map<String, Integer> constants = new TreeMap<>();
        for (String line : readme) {
            Matcher matcher = CONSTANT_ROW.matcher(line);
            if (matcher.matches()) {
                constants.put(matcher.group(1), Integer.valueOf(matcher.group(2)));
            }
        }
        return constants;
    }

    private static Map<String, Integer> constantsOfClass() throws Exception {
        Map<String, Integer> constants = new TreeMap<>();
        for (Field field : TwinSuites.class.getFields()) {
            if (Modifier.isStatic(field.getModifiers())) {
                constants.put(field.getName(), field.getInt(null));
            }
        }
        return constants;
    }
}
