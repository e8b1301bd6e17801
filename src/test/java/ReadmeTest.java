import java.io.IOException;
import java.lang.reflect.Method;
import java.lang.reflect.Modifier;
import java.nio.file.Files;
import java.nio.file.Path;
import java.util.ArrayList;
import java.util.Arrays;
import java.util.List;
import java.util.TreeMap;
import java.util.TreeSet;
import java.util.regex.Matcher;
import java.util.regex.Pattern;
import java.util.stream.Collectors;
import java.util.stream.Stream;

/** What README.md says holds: its example, its table of calls, and the tests that it names. */
public final class ReadmeTest {
    private static final int OFFICE = 1;
    private static final Pattern FIRST_LINE =
            Pattern.compile("NumberOffice x = new NumberOffice\\((\\d+)\\); .*");
    private static final Pattern EXAMPLE_LINE =
            Pattern.compile("x\\.(\\w+\\([^)]*\\)); +// (?:(true|false|-?\\d+): .*|(throws) .*)");
    private static final Pattern TABLE_LINE =
            Pattern.compile("\\| `(\\w+ (\\w+)\\(([^)]*)\\))` \\| [^|]+ \\| (office|branch|-) \\|");

    private final List<String> faults = new ArrayList<>();
    private int examples;

    public static void main(String[] args) throws IOException {
        Path tests = Path.of(args.length > 0 ? args[0] : "src/test").toAbsolutePath().normalize();
        List<String> lines = Files.readAllLines(tests.resolve("../../README.md").normalize());
        ReadmeTest test = new ReadmeTest();
        test.playExample(lines);
        test.lookAtTable(lines);
        test.lookForTests(tests.resolve("java"), lines);
        test.faults.forEach(System.out::println);
        System.out.println(test.examples + " calls of the example, " + test.faults.size()
                + " faults of README.md");
        if (!test.faults.isEmpty()) {
            System.exit(1);
        }
    }

    private void playExample(List<String> lines) {
        int from = lines.indexOf("```java") + 1;
        Matcher first = FIRST_LINE.matcher(lines.get(from));
        if (!first.matches()) {
            faults.add("the example does not begin with a new object");
            return;
        }
        Run run = new Run(Integer.parseInt(first.group(1)));
        for (int i = from + 1; i < lines.size() && !lines.get(i).equals("```"); i++) {
            String fault = playLine(run, lines.get(i));
            if (fault != null) {
                faults.add("README.md:" + (i + 1) + ": " + fault);
            }
        }
    }

    private String playLine(Run run, String line) {
        Matcher form = EXAMPLE_LINE.matcher(line);
        if (!form.matches()) {
            return "a call without an answer: " + line;
        }
        examples++;
        return run.play(Row.read(form.group(1) + (form.group(3) != null ? " throws" : " = " + form.group(2))));
    }

    private void lookAtTable(List<String> lines) {
        TreeMap<String, Method> face = new TreeMap<>();
        for (Method method : NumberOffice.class.getDeclaredMethods()) {
            if (Modifier.isPublic(method.getModifiers())) {
                face.put(told(method), method);
            }
        }
        TreeSet<String> missing = new TreeSet<>(face.keySet());
        for (String line : lines) {
            Matcher row = TABLE_LINE.matcher(line);
            if (row.matches()) {
                String call = row.group(1).replaceAll("(int|long) \\w+(,|\\))", "$1$2");
                if (!missing.remove(call)) {
                    faults.add("told twice, or not a call of the class: " + call);
                } else {
                    lookAtThrows(face.get(call), row.group(4));
                }
            } else if (line.startsWith("| `")) {
                faults.add("not the form of a row: " + line);
            }
        }
        missing.forEach(call -> faults.add("not in the table: " + call));
    }

    private static String told(Method method) {
        return method.getReturnType().getSimpleName() + " " + method.getName() + "("
                + Arrays.stream(method.getParameterTypes()).map(Class::getSimpleName)
                        .collect(Collectors.joining(", ")) + ")";
    }

    /** Of an object with one branch, with each side down in turn, and with no such argument. */
    private void lookAtThrows(Method method, String thrower) {
        boolean ofOffice = thrower.equals("office");
        boolean ofBranch = thrower.equals("branch");
        compare(method, 0, false, false, false);
        compare(method, 0, true, false, ofBranch);
        compare(method, 0, false, true, ofOffice);
        compare(method, -1, true, true, ofOffice);
        boolean declared = method.getExceptionTypes().length == 1;
        if (declared != (ofOffice || ofBranch)) {
            faults.add("the table and the class differ: what throws " + method.getName());
        }
    }

    private void compare(Method method, long argument, boolean branchDown, boolean officeDown, boolean due) {
        NumberOffice x = new NumberOffice(1);
        if (branchDown) {
            x.crash(0);
        }
        if (officeDown) {
            x.crash(OFFICE);
        }
        long[] arguments = new long[method.getParameterCount()];
        Arrays.fill(arguments, argument);
        boolean thrown = Calls.answer(x, method.getName(), arguments).startsWith(Calls.THROWS);
        if (thrown != due) {
            faults.add(method.getName() + Arrays.toString(arguments) + " throws: " + thrown
                    + "; branch down: " + branchDown + ", office down: " + officeDown);
        }
    }

    private void lookForTests(Path folder, List<String> lines) throws IOException {
        String text = String.join("\n", lines);
        try (Stream<Path> files = Files.list(folder)) {
            files.map(file -> file.getFileName().toString()).filter(name -> name.endsWith("Test.java"))
                    .filter(name -> !text.contains("`src/test/java/" + name + "`"))
                    .forEach(name -> faults.add("not told: " + name));
        }
    }
}
