import java.util.ArrayList;
import java.util.List;

/** One run of calls on a new object. */
final class Run {
    private final int branches;
    private final NumberOffice office;
    private final List<Row> calls = new ArrayList<>();

    Run(int branches) {
        this.branches = branches;
        office = new NumberOffice(branches);
    }

    /** What is wrong with the row, or null. */
    String play(Row row) {
        for (int i = 0; i < row.times(); i++) {
            String fault = playOnce(row);
            if (fault != null) {
                return fault;
            }
        }
        return null;
    }

    private String playOnce(Row row) {
        List<Row> before = List.copyOf(calls);
        String got = row.name().equals("list") ? wholeList(row.arguments()[0]) : answer(row);
        if (row.due() != null && !row.due().equals(got)) {
            return "answered " + got;
        }
        if (calls.size() > Calls.MOST) {
            return "behind the call " + Calls.MOST + ", where answers are free";
        }
        return row.nothingHappens() ? Traces.of(branches, before, row) : null;
    }

    private String answer(Row row) {
        calls.add(row);
        return row.answerOf(office);
    }

    /** The list of a series, with | for byte 10. */
    private String wholeList(long s) {
        StringBuilder text = new StringBuilder();
        for (int i = 0; i < Calls.MOST; i++) {
            String got = answer(Row.call("listByte", s, i));
            if (got.equals("-1") || got.startsWith(Calls.THROWS)) {
                break;
            }
            text.append(got.equals("10") ? '|' : (char) Integer.parseInt(got));
        }
        return text.toString();
    }
}
