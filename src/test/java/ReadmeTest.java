import java.io.IOException;
import java.lang.reflect.InvocationTargetException;
import java.lang.reflect.Method;
import java.lang.reflect.Modifier;
import java.nio.charset.StandardCharsets;
import java.nio.file.Files;
import java.nio.file.Path;
import java.util.ArrayList;
import java.util.List;
import java.util.TreeMap;
import java.util.TreeSet;
import java.util.regex.Matcher;
import java.util.regex.Pattern;

/** Holds README.md to the class: each line of its example answers what it says, and its table names each call once. */
public final class ReadmeTest {
    private static final Pattern NEW = Pattern.compile("PaidForThinking x = new PaidForThinking\\(\\);");
    private static final Pattern CALL = Pattern.compile("x\\.(\\w+)\\(([^)]*)\\);\\s+// (\\w+|-\\d+): \\S.*");
    private static final Pattern ROW_OF_TABLE = Pattern.compile("\\| (`[^|]*) \\|[^|]*\\| (\\d+) - (\\d+) \\|");
    private static final Pattern NAME = Pattern.compile("`(\\w+)`");
    private static final Pattern PROMISE = Pattern.compile("## Promise (\\d+): (\\w+)");

    private ReadmeTest() {
    }

    private static TreeMap<String, Method> calls() {
        TreeMap<String, Method> calls = new TreeMap<>();
        for (Method m : PaidForThinking.class.getDeclaredMethods()) {
            if (Modifier.isPublic(m.getModifiers())) {
                calls.put(m.getName(), m);
            }
        }
        return calls;
    }

    private static String answer(PaidForThinking x, Method call, String arguments) throws IllegalAccessException {
        String[] told = arguments.isEmpty() ? new String[0] : arguments.split(", ");
        Object[] numbers = new Object[told.length];
        for (int i = 0; i < told.length; i++) {
            numbers[i] = Integer.decode(told[i]);
        }
        try {
            return String.valueOf(call.invoke(x, numbers));
        } catch (InvocationTargetException e) {
            return e.getCause().getClass().getSimpleName();
        }
    }

    private static void exampleAnswersSo(List<String> example) throws IllegalAccessException {
        TreeMap<String, Method> calls = calls();
        PaidForThinking x = null;
        for (String line : example) {
            Matcher call = CALL.matcher(line);
            if (NEW.matcher(line).matches()) {
                x = new PaidForThinking();
            } else if (!line.isEmpty()) {
                boolean known = call.matches() && calls.containsKey(call.group(1));
                Due.is("README can be read: " + line, known, true);
                String got = known ? answer(x, calls.get(call.group(1)), call.group(2)) : "";
                Due.is("README says, but got " + got + ": " + line, known && got.equals(call.group(3)), true);
            }
        }
        Due.is("README's example makes an object", x != null, true);
    }

    private static List<String> example(List<String> readme) {
        int from = readme.indexOf("```java");
        int to = readme.lastIndexOf("```");
        boolean there = from >= 0 && to > from + 1;
        Due.is("README has an example", there, true);
        return there ? readme.subList(from + 1, to) : new ArrayList<>();
    }

    private static TreeMap<String, Integer> promises(List<String> document) {
        TreeMap<String, Integer> promises = new TreeMap<>();
        for (String line : document) {
            Matcher promise = PROMISE.matcher(line);
            if (promise.lookingAt()) {
                promises.put(promise.group(2), Integer.parseInt(promise.group(1)));
            }
        }
        return promises;
    }

    private static void tableNamesEachCallOnce(List<String> readme, TreeMap<String, Integer> promises) {
        TreeSet<String> named = new TreeSet<>();
        for (String line : readme) {
            Matcher row = ROW_OF_TABLE.matcher(line);
            if (row.matches()) {
                Matcher name = NAME.matcher(row.group(1));
                int due = Integer.parseInt(row.group(2));
                for (; name.find(); due++) {
                    Due.is("README names once " + name.group(1), named.add(name.group(1)), true);
                    Due.is("README's promise of " + name.group(1), due, promises.getOrDefault(name.group(1), -1));
                }
                Due.is("README's last promise in: " + line, Integer.parseInt(row.group(3)), due - 1);
            }
        }
        Due.is("README names all calls: " + named, named.equals(calls().keySet()), true);
    }

    public static void main(String[] args) throws IOException, IllegalAccessException {
        List<String> readme = Files.readAllLines(Path.of("README.md"), StandardCharsets.UTF_8);
        List<String> document = Files.readAllLines(Path.of("../shared/DOC.md"), StandardCharsets.UTF_8);
        exampleAnswersSo(example(readme));
        tableNamesEachCallOnce(readme, promises(document));
        Due.end("ReadmeTest");
    }
}
