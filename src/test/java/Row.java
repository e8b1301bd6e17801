import java.util.Arrays;
import java.util.regex.Matcher;
import java.util.regex.Pattern;

/**
 * A row of a run: a call, how often it is made, what is due (null where the answer is not looked at),
 * and whether nothing may happen by it. README.md tells the form.
 */
record Row(String name, long[] arguments, int times, String due, boolean nothingHappens) {
    private static final Pattern FORM = Pattern.compile(
            "(nothing: )?(?:(\\d+) times: )?(\\w+)\\(([^)]*)\\)(?: = (.*)| (throws))?");

    static Row call(String name, long... arguments) {
        return new Row(name, arguments, 1, null, false);
    }

    /** Null if the line does not have the form of a row. */
    static Row read(String line) {
        Matcher form = FORM.matcher(line);
        if (!form.matches()) {
            return null;
        }
        int times = form.group(2) == null ? 1 : Integer.parseInt(form.group(2));
        String due = form.group(6) != null ? Calls.THROWS : form.group(5);
        return new Row(form.group(3), numbers(form.group(4)), times,
                "NONE".equals(due) ? String.valueOf(NumberOffice.NONE) : due, form.group(1) != null);
    }

    private static long[] numbers(String text) {
        return Arrays.stream(text.split(",")).map(String::strip).filter(part -> !part.isEmpty())
                .mapToLong(Long::parseLong).toArray();
    }

    /** A row that begins a run. */
    boolean makesObject() {
        return name.equals("NumberOffice");
    }

    String answerOf(NumberOffice office) {
        return Calls.answer(office, name, arguments);
    }

    String told() {
        String inside = Arrays.toString(arguments);
        return name + "(" + inside.substring(1, inside.length() - 1) + ")";
    }
}
