import java.io.IOException;
import java.lang.reflect.InvocationTargetException;
import java.lang.reflect.Method;
import java.nio.file.Files;
import java.nio.file.Path;
import java.util.ArrayList;
import java.util.List;
import java.util.Set;
import java.util.TreeSet;
import java.util.regex.Matcher;
import java.util.regex.Pattern;

/** README.md: its example answers as it says, and it has each method of the document with its exceptions. */
public final class ReadmeTest {
    private static final Pattern TOLD = Pattern.compile("for \\(char u : \"(.*)\"\\.toCharArray\\(\\)\\) \\{");
    private static final Pattern CALL =
        Pattern.compile("rules\\.(\\w+)\\(([-\\d, ]*)\\); +// (throws \\w+|\\S+?)(:.*| .*)?");
    private static final Pattern EXCEPTION = Pattern.compile("`(\\w+Exception)`");

    private static final String INDEX = "IndexOutOfBoundsException";
    private static final String ARGUMENT = "IllegalArgumentException";
    private static final String STATE = "IllegalStateException";

    /** The document's methods, each with its exceptions in the document's order. */
    private static final String[][] FACE = {
        {"boolean unit(int u)"},
        {"int read()"},
        {"int rule(int kind, int what)", INDEX},
        {"void set(int what, int percent)", INDEX, ARGUMENT},
        {"long holds(int kind, int a, int b, int angle, int part)", INDEX, ARGUMENT},
        {"long together(int n, long one)", ARGUMENT},
        {"int count(long load, long one)", ARGUMENT},
        {"boolean pattern(int kind, int w, int h, int n)", INDEX, ARGUMENT},
        {"int at(int k, int axis)", STATE, INDEX},
        {"int place(int x, int y)", ARGUMENT, STATE},
        {"void clear()"},
        {"int keeps(int kind, int w, int h)", INDEX, ARGUMENT},
        {"int member(int x0, int y0, int x1, int y1, int wide)", ARGUMENT, STATE},
        {"boolean in(int member, int x, int y)", INDEX, ARGUMENT},
        {"int teeth(int member, int x, int y, int w, int h, int step)", INDEX, ARGUMENT},
        {"boolean thick(int kind, int thick)", INDEX, ARGUMENT},
        {"int hole(int kind)", INDEX},
    };

    public static void main(String[] args) throws IOException {
        List<String> readme = Files.readAllLines(Path.of("README.md"));
        theExampleAnswersAsItSays(readme);
        eachMethodStandsWithItsExceptions(readme);
        Check.end();
    }

    private static void theExampleAnswersAsItSays(List<String> readme) {
        int first = readme.indexOf("```java");
        int last = first + readme.subList(first, readme.size()).indexOf("```");
        NailRules rules = new NailRules();
        Set<String> called = new TreeSet<>();
        for (String line : readme.subList(first + 1, last)) {
            Matcher told = TOLD.matcher(line);
            Matcher call = CALL.matcher(line);
            if (told.matches()) {
                Check.tell(rules, told.group(1));
                called.add("unit");
            } else if (call.matches()) {
                answersAsItSays(rules, call);
                called.add(call.group(1));
            } else {
                boolean frame = line.equals("NailRules rules = new NailRules();")
                    || line.equals("    rules.unit(u);") || line.equals("}");
                Check.yes("can be run: " + line, frame);
            }
        }
        Check.same("methods in the example: " + called, called.size(), FACE.length);
    }

    private static void answersAsItSays(NailRules rules, Matcher call) {
        Method method = methodOf(call.group(1));
        if (method == null) {
            Check.yes("there is a method " + call.group(1), false);
            return;
        }
        String answer = answer(rules, method, call.group(2).split(", *"));
        if (method.getReturnType() != void.class) {
            Check.same("README: " + call.group(), answer, call.group(3));
        } else {
            Check.same("README: " + call.group(), answer, "null");
        }
    }

    private static Method methodOf(String name) {
        for (Method method : NailRules.class.getDeclaredMethods()) {
            if (method.getName().equals(name)) {
                return method;
            }
        }
        return null;
    }

    private static String answer(NailRules rules, Method method, String[] numbers) {
        Class<?>[] types = method.getParameterTypes();
        Object[] given = new Object[types.length];
        for (int i = 0; i < given.length; i++) {
            given[i] = types[i] == long.class ? (Object) Long.valueOf(numbers[i]) : Integer.valueOf(numbers[i]);
        }
        try {
            return String.valueOf(method.invoke(rules, given));
        } catch (InvocationTargetException e) {
            return "throws " + e.getCause().getClass().getSimpleName();
        } catch (IllegalAccessException e) {
            return "can't be called";
        }
    }

    /** Their order counts: of several exceptions the one named first is thrown. */
    private static void eachMethodStandsWithItsExceptions(List<String> readme) {
        for (String[] method : FACE) {
            String item = itemOf(readme, "- `" + method[0] + "`: ");
            List<String> due = List.of(method).subList(1, method.length);
            Check.same("README on " + method[0], thrownBy(item), due.isEmpty() ? "nothing" : String.join(", ", due));
        }
    }

    private static String itemOf(List<String> readme, String start) {
        StringBuilder item = new StringBuilder();
        for (String line : readme) {
            boolean begins = line.startsWith(start);
            if (begins || item.length() > 0 && line.startsWith("  ")) {
                item.append(line).append('\n');
            } else if (item.length() > 0) {
                break;
            }
        }
        return item.toString();
    }

    private static String thrownBy(String item) {
        List<String> names = new ArrayList<>();
        Matcher named = EXCEPTION.matcher(item);
        while (named.find()) {
            names.add(named.group(1));
        }
        if (names.isEmpty()) {
            return item.matches("(?s).*Throws\\s+nothing\\.\\s*") ? "nothing" : "not told";
        }
        return String.join(", ", names);
    }
}
