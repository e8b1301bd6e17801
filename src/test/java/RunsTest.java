import java.io.IOException;
import java.lang.reflect.InvocationTargetException;
import java.lang.reflect.Method;
import java.nio.file.Files;
import java.nio.file.Path;
import java.util.ArrayList;
import java.util.List;
import java.util.regex.Matcher;
import java.util.regex.Pattern;
import java.util.stream.Stream;

/**
 * Runs of calls told in text files, one file for each promise. A run begins with NumberOffice(n);
 * README.md tells the form of a row.
 */
public final class RunsTest {
    private static final List<String> PROMISES = List.of(
            "new", "series", "request", "report", "again", "invoice", "voidNext", "voidUsed",
            "strike", "close", "crash", "mount", "flush", "letters", "letter", "deliver", "drop",
            "twin", "fate", "invoiceOf", "total", "branchFate", "branch", "listByte");
    private static final int MOST_CALLS = 512;
    private static final Pattern ROW = Pattern.compile(
            "(?:(\\d+) times: )?(\\w+)\\(([^)]*)\\)(?: (=) (.*)| (throws))?");

    private int wrong;
    private int rows;
    private NumberOffice office;
    private int calls;

    public static void main(String[] args) throws IOException {
        RunsTest test = new RunsTest();
        Path folder = Path.of(args.length > 0 ? args[0] : "src/test/runs");
        test.lookForEachPromise(folder);
        for (Path file : filesOf(folder)) {
            test.runFile(file);
        }
        System.out.println(test.rows + " rows, " + test.wrong + " wrong");
        if (test.wrong != 0) {
            System.exit(1);
        }
    }

    private static List<Path> filesOf(Path folder) throws IOException {
        try (Stream<Path> all = Files.list(folder)) {
            return all.filter(p -> p.toString().endsWith(".txt")).sorted().toList();
        }
    }

    private void lookForEachPromise(Path folder) {
        for (int i = 0; i < PROMISES.size(); i++) {
            String name = String.format("%02d-%s.txt", i + 1, PROMISES.get(i));
            if (!Files.exists(folder.resolve(name))) {
                tell("no runs for promise " + (i + 1) + ": " + name);
            }
        }
    }

    private void runFile(Path file) throws IOException {
        List<String> lines = Files.readAllLines(file);
        office = null;
        for (int i = 0; i < lines.size(); i++) {
            String line = lines.get(i).strip();
            if (!line.isEmpty() && !line.startsWith("#")) {
                rows++;
                runRow(file.getFileName() + ":" + (i + 1) + ": " + line, line);
            }
        }
    }

    private void runRow(String where, String line) {
        Matcher row = ROW.matcher(line);
        if (!row.matches()) {
            tell(where + ": not the form of a row");
            return;
        }
        int times = row.group(1) == null ? 1 : Integer.parseInt(row.group(1));
        for (int i = 0; i < times; i++) {
            String got = answer(row.group(2), numbers(row.group(3)));
            String due = row.group(6) != null ? "throws" : row.group(4) != null ? row.group(5) : got;
            if (!got.equals(due)) {
                tell(where + ": answered " + got);
            }
        }
        if (calls > MOST_CALLS) {
            tell(where + ": behind the call " + MOST_CALLS + ", where answers are free");
        }
    }

    private String answer(String name, List<Long> arguments) {
        if (name.equals("NumberOffice")) {
            office = new NumberOffice((int) (long) arguments.get(0));
            calls = 0;
            return "";
        }
        if (name.equals("list")) {
            return wholeList((int) (long) arguments.get(0));
        }
        calls++;
        return call(name, arguments);
    }

    private String wholeList(int s) {
        StringBuilder text = new StringBuilder();
        for (int i = 0; i < MOST_CALLS; i++) {
            calls++;
            int c = office.listByte(s, i);
            if (c == NumberOffice.NONE) {
                break;
            }
            text.append(c == '\n' ? '|' : (char) c);
        }
        return text.toString();
    }

    private String call(String name, List<Long> arguments) {
        try {
            Method method = methodOf(name);
            Class<?>[] types = method.getParameterTypes();
            Object[] values = new Object[types.length];
            for (int i = 0; i < types.length; i++) {
                long value = arguments.get(i);
                values[i] = types[i] == long.class ? (Object) value : (Object) Math.toIntExact(value);
            }
            String got = String.valueOf(method.invoke(office, values));
            return got.equals("-1") ? "NONE" : got;
        } catch (InvocationTargetException e) {
            boolean isDue = e.getCause().getClass() == IllegalStateException.class;
            return isDue ? "throws" : "throws " + e.getCause();
        } catch (IllegalAccessException e) {
            return e.toString();
        }
    }

    private static Method methodOf(String name) {
        for (Method method : NumberOffice.class.getDeclaredMethods()) {
            if (method.getName().equals(name)) {
                return method;
            }
        }
        throw new IllegalArgumentException("no method " + name);
    }

    private static List<Long> numbers(String text) {
        List<Long> values = new ArrayList<>();
        for (String part : text.split(",")) {
            if (!part.isBlank()) {
                values.add(Long.parseLong(part.strip()));
            }
        }
        return values;
    }

    private void tell(String fault) {
        wrong++;
        System.out.println(fault);
    }
}
