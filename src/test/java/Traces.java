import java.util.ArrayList;
import java.util.List;

/**
 * Traces that a call leaves by which nothing may happen: two objects live through the same calls, one
 * of them through that call too, and then all that can be looked at must be the same in both.
 */
final class Traces {
    private static final int SERIES = 3;
    private static final int PLACES = 64;
    private static final int LIST_BYTES = 40;
    private static final int DELIVERIES = 12;
    /** Ranges of numbers that runs of the tests come near to. */
    private static final int[][] NUMBERS = {{0, 9}, {28, 33}, {99, 103}, {199, 202}, {297, 301}};

    private Traces() { }

    /** The first trace, or null. */
    static String of(int branches, List<Row> before, Row call) {
        int sides = Math.max(1, Math.min(6, branches)) + 1;
        List<Row> looks = looks(sides - 1);
        List<List<Row>> ways = List.of(List.of(), breakDown(sides), goOn(sides - 1));
        for (List<Row> way : ways) {
            int room = Calls.MOST - before.size() - 1 - way.size();
            if (room < 1) {
                return "the run is too long to look for traces behind it";
            }
            for (int from = 0; from < looks.size(); from += room) {
                List<Row> behind = new ArrayList<>(way);
                behind.addAll(looks.subList(from, Math.min(looks.size(), from + room)));
                String trace = difference(branches, before, call, behind);
                if (trace != null) {
                    return trace;
                }
            }
        }
        return null;
    }

    private static String difference(int branches, List<Row> before, Row call, List<Row> behind) {
        NumberOffice without = new NumberOffice(branches);
        NumberOffice with = new NumberOffice(branches);
        for (Row row : before) {
            row.answerOf(without);
            row.answerOf(with);
        }
        call.answerOf(with);
        for (Row row : behind) {
            String due = row.answerOf(without);
            String got = row.answerOf(with);
            if (!got.equals(due)) {
                return "left a trace: then " + row.told() + " answers " + got + ", not " + due;
            }
        }
        return null;
    }

    /** Shows what is safe. */
    private static List<Row> breakDown(int sides) {
        List<Row> rows = new ArrayList<>();
        for (int side = 0; side < sides; side++) {
            rows.add(Row.call("crash", side));
            rows.add(Row.call("mount", side));
        }
        return rows;
    }

    /** Shows what looks alone do not: what waits, what is next, which date was the latest. */
    private static List<Row> goOn(int branches) {
        List<Row> rows = new ArrayList<>();
        for (int side = 0; side <= branches; side++) {
            rows.add(Row.call("mount", side));
            rows.add(Row.call("again", side));
        }
        for (int i = 0; i < DELIVERIES; i++) {
            rows.add(Row.call("deliver", 0));
        }
        for (int b = 0; b < branches; b++) {
            for (int s = 0; s < SERIES; s++) {
                rows.add(Row.call("invoice", b, s, 1, 0));
                rows.add(Row.call("voidNext", b, s, 1));
                rows.add(Row.call("report", b, s));
                rows.add(Row.call("deliver", 0));
                rows.add(Row.call("request", b, s, 2));
                rows.add(Row.call("deliver", 0));
            }
            rows.add(Row.call("strike", b));
        }
        for (int s = 0; s < SERIES; s++) {
            rows.add(Row.call("series", s, 77));
            rows.add(Row.call("close", s));
        }
        return rows;
    }

    private static List<Row> looks(int branches) {
        List<Row> rows = new ArrayList<>();
        rows.add(Row.call("letters"));
        for (int i = 0; i < PLACES; i++) {
            for (int what = 0; what < 3; what++) {
                rows.add(Row.call("letter", i, what));
            }
        }
        for (int b = 0; b < branches; b++) {
            for (int what = 0; what < 6; what++) {
                rows.add(Row.call("branch", b, what));
            }
        }
        for (int s = 0; s < SERIES; s++) {
            for (int i = 0; i < LIST_BYTES; i++) {
                rows.add(Row.call("listByte", s, i));
            }
            addLooksAtNumbers(rows, s, branches);
        }
        return rows;
    }

    private static void addLooksAtNumbers(List<Row> rows, int s, int branches) {
        for (int[] range : NUMBERS) {
            for (int number = range[0]; number <= range[1]; number++) {
                rows.add(Row.call("fate", s, number));
                for (int field = 0; field < 4; field++) {
                    rows.add(Row.call("invoiceOf", s, number, field));
                }
                for (int b = 0; b < branches; b++) {
                    rows.add(Row.call("branchFate", b, s, number));
                }
            }
        }
        for (int b = 0; b < branches; b++) {
            rows.add(Row.call("total", s, b));
        }
    }
}
