import java.util.ArrayList;
import java.util.List;

/** An object and the calls that it lived through, so that another can be brought to where it is. */
final class Tape {
    private final int branches;
    private final NumberOffice office;
    private final List<Row> calls = new ArrayList<>();

    Tape(int branches) {
        this.branches = branches;
        office = new NumberOffice(branches);
    }

    Tape again() {
        Tape other = new Tape(branches);
        calls.forEach(row -> other.call(row.name(), row.arguments()));
        return other;
    }

    String call(String name, long... arguments) {
        Row row = Row.call(name, arguments);
        calls.add(row);
        return row.answerOf(office);
    }

    /** Of a call that answers a number and whose side is up. */
    int value(String name, long... arguments) {
        return Integer.parseInt(call(name, arguments));
    }

    int room() {
        return Calls.MOST - calls.size();
    }

    @Override
    public String toString() {
        StringBuilder text = new StringBuilder("NumberOffice(" + branches + ")");
        calls.forEach(row -> text.append(' ').append(row.told()));
        return text.toString();
    }
}
