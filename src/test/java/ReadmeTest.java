import java.io.IOException;
import java.lang.reflect.Method;
import java.nio.file.Files;
import java.nio.file.Path;
import java.util.List;
import java.util.Set;
import java.util.TreeSet;
import java.util.regex.Matcher;
import java.util.regex.Pattern;
import java.util.stream.Stream;

/**
 * README.md tells the truth: each call of its example answers what stands behind it, every call
 * of the document's face is in it, and the tests that it names are those that there are.
 */
public final class ReadmeTest {
    private static final Pattern MADE = Pattern.compile("new TideGuests\\((\\d+), (\\d+)\\);");
    private static final Pattern CALL = Pattern.compile("inn\\.(\\w+)\\(([^)]*)\\); +// (true|false|-?\\d+)\\b.*");
    private static int wrong = 0;

    private static void due(String what, Object got, Object want) {
        if (!want.equals(got)) {
            wrong++;
            System.out.println("README.md: " + what + " answered " + got + ", README has " + want);
        }
    }

    private static Object argument(String told) {
        return switch (told) {
            case "true" -> true;
            case "false" -> false;
            case "TideGuests.NONE" -> TideGuests.NONE;
            default -> Integer.parseInt(told);
        };
    }

    private static Object answer(TideGuests inn, String name, String told) throws ReflectiveOperationException {
        Object[] arguments = told.isEmpty() ? new Object[0]
            : Stream.of(told.split(", ")).map(ReadmeTest::argument).toArray();
        for (Method m : TideGuests.class.getMethods()) {
            if (m.getName().equals(name) && m.getParameterCount() == arguments.length) {
                return m.invoke(inn, arguments);
            }
        }
        return "nothing: there is no such call";
    }

    /** Runs the example and tells the names of all that it calls. */
    private static Set<String> runExample(String readme) throws ReflectiveOperationException {
        Set<String> called = new TreeSet<>();
        Matcher made = MADE.matcher(readme);
        due("an object that is made", made.find(), true);
        TideGuests inn = new TideGuests(Integer.parseInt(made.group(1)), Integer.parseInt(made.group(2)));
        for (String line : readme.split("\n")) {
            if (line.startsWith("inn.")) {
                Matcher m = CALL.matcher(line);
                boolean reads = m.matches();
                due("\"" + line + "\" as a call with its answer", reads, true);
                if (reads) {
                    called.add(m.group(1));
                    due(line, String.valueOf(answer(inn, m.group(1), m.group(2))), m.group(3));
                }
            }
        }
        return called;
    }

    private static Set<String> face() {
        Set<String> names = new TreeSet<>();
        for (Method m : TideGuests.class.getDeclaredMethods()) {
            if (java.lang.reflect.Modifier.isPublic(m.getModifiers())) {
                names.add(m.getName());
            }
        }
        return names;
    }

    private static Set<String> testsThere() throws IOException {
        Set<String> names = new TreeSet<>();
        try (Stream<Path> files = Files.list(Path.of("src/test/java"))) {
            List<String> all = files.map(f -> f.getFileName().toString()).toList();
            for (String file : all) {
                if (file.endsWith("Test.java")) {
                    names.add(file.substring(0, file.length() - ".java".length()));
                }
            }
        }
        return names;
    }

    private static Set<String> testsNamed(String readme) {
        Set<String> names = new TreeSet<>();
        Matcher m = Pattern.compile("`(\\w+Test)`").matcher(readme);
        while (m.find()) {
            names.add(m.group(1));
        }
        return names;
    }

    public static void main(String[] args) throws IOException, ReflectiveOperationException {
        String readme = Files.readString(Path.of("README.md"));
        due("all that the example calls", runExample(readme).toString(), face().toString());
        due("the tests there are", testsThere().toString(), testsNamed(readme).toString());
        System.out.println(wrong == 0 ? "README tells what is" : wrong + " slips");
        if (wrong != 0) {
            System.exit(1);
        }
    }
}
