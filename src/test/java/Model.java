import java.nio.charset.StandardCharsets;
import java.util.ArrayList;
import java.util.HashMap;
import java.util.List;
import java.util.Map;
import java.util.TreeMap;

/**
 * The document written down a second time, slow and plain: a side's knowledge is one value that is
 * copied whole when it becomes safe. Calls come by name, so that a test can compare any of them.
 */
final class Model {
    /** cents is null for a void; note is the date or the reason. */
    record Event(int number, Long cents, int note) { }

    record Range(int from, int to) { }

    /** kind 1 ASK, 2 FATES, 3 an answer, whose word is "block", "taken" or "struck". */
    record Paper(int kind, int branch, int number, int s, int n, List<Event> events, String word,
            Range range) { }

    static final class BranchMind {
        Map<Integer, List<Range>> blocks = new HashMap<>();
        Map<Integer, List<Event>> events = new HashMap<>();
        Map<Integer, Integer> reported = new HashMap<>();
        int number;
        Paper latest;
        boolean waits;
        boolean told;

        BranchMind copy() {
            BranchMind c = new BranchMind();
            blocks.forEach((s, l) -> c.blocks.put(s, new ArrayList<>(l)));
            events.forEach((s, l) -> c.events.put(s, new ArrayList<>(l)));
            c.reported.putAll(reported);
            c.number = number;
            c.latest = latest;
            c.waits = waits;
            c.told = told;
            return c;
        }

        List<Range> blocks(int s) {
            return blocks.computeIfAbsent(s, x -> new ArrayList<>());
        }

        List<Event> events(int s) {
            return events.computeIfAbsent(s, x -> new ArrayList<>());
        }

        int reported(int s) {
            return reported.getOrDefault(s, 0);
        }

        boolean usedUp(int s, int number) {
            return events(s).stream().anyMatch(e -> e.number() == number);
        }

        List<Integer> left(int s) {
            List<Integer> left = new ArrayList<>();
            for (Range r : blocks(s)) {
                for (int k = r.from(); k <= r.to(); k++) {
                    if (!usedUp(s, k)) {
                        left.add(k);
                    }
                }
            }
            return left;
        }

        long openBlocks(int s) {
            List<Integer> left = left(s);
            return blocks(s).stream().filter(r -> left.contains(r.to())).count();
        }
    }

    record Entry(int branch, int fate, long cents, int date, int reason) { }

    static final class OfficeMind {
        Map<Integer, String> states = new HashMap<>();
        Map<Integer, Integer> years = new HashMap<>();
        Map<Integer, TreeMap<Integer, Entry>> numbers = new HashMap<>();
        Map<Integer, Boolean> struck = new HashMap<>();
        Map<Integer, Paper> answers = new HashMap<>();

        OfficeMind copy() {
            OfficeMind c = new OfficeMind();
            c.states.putAll(states);
            c.years.putAll(years);
            numbers.forEach((s, m) -> c.numbers.put(s, new TreeMap<>(m)));
            c.struck.putAll(struck);
            c.answers.putAll(answers);
            return c;
        }

        TreeMap<Integer, Entry> numbers(int s) {
            return numbers.computeIfAbsent(s, x -> new TreeMap<>());
        }

        String state(int s) {
            return states.getOrDefault(s, "none");
        }
    }

    private final int count;
    private final boolean[] up;
    private final List<BranchMind> minds = new ArrayList<>();
    private final List<BranchMind> safeMinds = new ArrayList<>();
    private OfficeMind office = new OfficeMind();
    private OfficeMind safeOffice = new OfficeMind();
    private final List<Paper> post = new ArrayList<>();

    Model(int branches) {
        count = branches < 1 ? 1 : branches > 6 ? 6 : branches;
        up = new boolean[count + 1];
        for (int i = 0; i <= count; i++) {
            up[i] = true;
        }
        for (int i = 0; i < count; i++) {
            minds.add(new BranchMind());
            safeMinds.add(new BranchMind());
        }
    }

    String call(String name, long[] a) {
        return switch (name) {
            case "series", "strike", "close", "fate", "invoiceOf", "total", "listByte" ->
                    up[count] ? ofOffice(name, a) : Calls.THROWS;
            case "request", "report", "invoice", "voidNext", "voidUsed" -> ofBranch(name, a);
            case "again" -> told(isBranch(a[0]) && up[(int) a[0]] && sendAgain((int) a[0]));
            case "crash" -> told(isSide(a[0]) && up[(int) a[0]] && fall((int) a[0]));
            case "mount" -> told(isSide(a[0]) && !up[(int) a[0]] && (up[(int) a[0]] = true));
            case "flush" -> told(isSide(a[0]) && up[(int) a[0]] && save((int) a[0]));
            case "letters" -> told(post.size());
            case "letter" -> letter(a[0], a[1]);
            case "deliver" -> told(isPlace(a[0]) && bring(post.remove((int) a[0])));
            case "drop" -> told(isPlace(a[0]) && post.remove((int) a[0]) != null);
            case "twin" -> told(isPlace(a[0]) && post.size() < 64 && post.add(post.get((int) a[0])));
            case "branchFate" -> told(isBranch(a[0]) && up[(int) a[0]] && isSeries(a[1])
                    ? branchFate(minds.get((int) a[0]), (int) a[1], a[2]) : -1);
            case "branch" -> told(isBranch(a[0]) && up[(int) a[0]]
                    ? branch(minds.get((int) a[0]), a[1]) : -1);
            default -> throw new IllegalArgumentException(name);
        };
    }

    private static String told(boolean b) {
        return String.valueOf(b);
    }

    private static String told(long n) {
        return String.valueOf(n);
    }

    private boolean isBranch(long b) {
        return b >= 0 && b < count;
    }

    private boolean isSide(long b) {
        return b >= 0 && b <= count;
    }

    private static boolean isSeries(long s) {
        return s >= 0 && s <= 2;
    }

    private boolean isPlace(long i) {
        return i >= 0 && i < post.size();
    }

    private void send(Paper paper) {
        if (post.size() < 64) {
            post.add(paper);
        }
    }

    private boolean save(int side) {
        if (side == count) {
            safeOffice = office.copy();
        } else {
            safeMinds.set(side, minds.get(side).copy());
        }
        return true;
    }

    private boolean fall(int side) {
        up[side] = false;
        if (side == count) {
            office = safeOffice.copy();
        } else {
            minds.set(side, safeMinds.get(side).copy());
        }
        return true;
    }

    private boolean sendAgain(int b) {
        if (!minds.get(b).waits) {
            return false;
        }
        save(b);
        send(minds.get(b).latest);
        return true;
    }

    private String letter(long i, long what) {
        if (!isPlace(i) || what < 0 || what > 2) {
            return "-1";
        }
        Paper p = post.get((int) i);
        return told(what == 0 ? p.kind() : what == 1 ? p.branch() : p.number());
    }

    private boolean bring(Paper p) {
        if (p.kind() == 3) {
            if (up[p.branch()]) {
                read(minds.get(p.branch()), p);
            }
        } else if (up[count]) {
            take(p);
        }
        return true;
    }

    private void read(BranchMind m, Paper answer) {
        if (!m.waits || answer.number() != m.number) {
            return;
        }
        m.waits = false;
        int s = m.latest.s();
        switch (answer.word()) {
            case "struck" -> m.told = true;
            case "taken" -> m.reported.merge(s, m.latest.events().size(), Integer::sum);
            default -> {
                if (answer.range() != null) {
                    m.blocks(s).add(answer.range());
                }
            }
        }
    }

    private void take(Paper p) {
        Paper before = office.answers.get(p.branch());
        int latest = before == null ? 0 : before.number();
        if (p.number() == latest) {
            send(before);
        } else if (p.number() == latest + 1) {
            Paper answer = answer(p);
            office.answers.put(p.branch(), answer);
            save(count);
            send(answer);
        }
    }

    private Paper answer(Paper p) {
        String word = "block";
        Range range = null;
        TreeMap<Integer, Entry> book = office.numbers(p.s());
        if (office.struck.getOrDefault(p.branch(), false)) {
            word = "struck";
        } else if (p.kind() == 2) {
            word = "taken";
            p.events().forEach(e -> enter(book, e, office.state(p.s()).equals("closed")));
        } else if (office.state(p.s()).equals("open")) {
            int from = book.size() + 1;
            for (int k = 0; k < p.n() && book.size() < 300; k++) {
                book.put(book.size() + 1, new Entry(p.branch(), 1, 0, 0, 0));
            }
            range = book.size() >= from ? new Range(from, book.size()) : null;
        }
        return new Paper(3, p.branch(), p.number(), p.s(), 0, List.of(), word, range);
    }

    private static void enter(TreeMap<Integer, Entry> book, Event e, boolean closed) {
        Entry now = book.get(e.number());
        if (e.cents() != null && now.fate() == 1) {
            book.put(e.number(), new Entry(now.branch(), 2, e.cents(), e.note(), 0));
        }
        if (e.cents() == null && !closed && (now.fate() == 1 || now.fate() == 2)) {
            book.put(e.number(), new Entry(now.branch(), 3, 0, 0, e.note()));
        }
    }

    private String ofBranch(String name, long[] a) {
        boolean answersBoolean = name.equals("voidUsed");
        if (!isBranch(a[0])) {
            return answersBoolean ? "false" : "-1";
        }
        int b = (int) a[0];
        if (!up[b]) {
            return Calls.THROWS;
        }
        if (!isSeries(a[1])) {
            return answersBoolean ? "false" : "-1";
        }
        BranchMind m = minds.get(b);
        int s = (int) a[1];
        return switch (name) {
            case "request" -> told(request(m, b, s, a[2]));
            case "report" -> told(report(m, b, s));
            case "invoice" -> told(invoice(m, b, s, a[2], (int) a[3]));
            case "voidNext" -> told(voidNext(m, s, a[2]));
            default -> told(voidUsed(m, s, a[2], a[3]));
        };
    }

    private int write(BranchMind m, int b, Paper p) {
        m.number = p.number();
        m.latest = p;
        m.waits = true;
        save(b);
        send(p);
        return p.number();
    }

    private int request(BranchMind m, int b, int s, long n) {
        if (n < 1 || n > 100 || m.waits || m.told || m.openBlocks(s) >= 2) {
            return -1;
        }
        return write(m, b, new Paper(1, b, m.number + 1, s, (int) n, List.of(), "", null));
    }

    private int report(BranchMind m, int b, int s) {
        List<Event> all = m.events(s);
        int from = m.reported(s);
        if (m.waits || m.told || from == all.size()) {
            return -1;
        }
        List<Event> some = List.copyOf(all.subList(from, Math.min(all.size(), from + 30)));
        return write(m, b, new Paper(2, b, m.number + 1, s, 0, some, "", null));
    }

    private int invoice(BranchMind m, int b, int s, long cents, int date) {
        List<Integer> left = m.left(s);
        if (left.isEmpty() || cents < 1 || cents > 1_000_000_000_000L) {
            return -1;
        }
        int next = left.get(0);
        Range block = m.blocks(s).stream()
                .filter(r -> r.from() <= next && next <= r.to()).findFirst().orElseThrow();
        Integer before = null;
        for (Event e : m.events(s)) {
            if (e.cents() != null && e.number() >= block.from() && e.number() <= block.to()) {
                before = e.note();
            }
        }
        if (before != null && date < before) {
            return -1;
        }
        m.events(s).add(new Event(next, cents, date));
        save(b);
        return next;
    }

    private static int voidNext(BranchMind m, int s, long reason) {
        List<Integer> left = m.left(s);
        if (left.isEmpty() || reason < 1 || reason > 99) {
            return -1;
        }
        m.events(s).add(new Event(left.get(0), null, (int) reason));
        return left.get(0);
    }

    private static boolean voidUsed(BranchMind m, int s, long number, long reason) {
        if (branchFate(m, s, number) != 2 || reason < 1 || reason > 99) {
            return false;
        }
        return m.events(s).add(new Event((int) number, null, (int) reason));
    }

    private static int branchFate(BranchMind m, int s, long number) {
        if (m.events(s).stream().anyMatch(e -> e.number() == number && e.cents() == null)) {
            return 3;
        }
        if (m.events(s).stream().anyMatch(e -> e.number() == number)) {
            return 2;
        }
        return m.blocks(s).stream().anyMatch(r -> r.from() <= number && number <= r.to()) ? 1 : 0;
    }

    private static int branch(BranchMind m, long what) {
        if (what >= 3 && what <= 5) {
            return m.events((int) what - 3).size() - m.reported((int) what - 3);
        }
        return what == 0 ? (m.waits ? 1 : 0) : what == 1 ? m.number
                : what == 2 ? (m.told ? 1 : 0) : -1;
    }

    private String ofOffice(String name, long[] a) {
        if (name.equals("strike")) {
            return told(strike(a[0]));
        }
        if (!isSeries(a[0])) {
            return switch (name) {
                case "series" -> "false";
                case "fate", "total" -> "0";
                default -> "-1";
            };
        }
        int s = (int) a[0];
        TreeMap<Integer, Entry> book = office.numbers(s);
        return switch (name) {
            case "series" -> told(open(s, a[1]));
            case "close" -> told(close(s, book));
            case "fate" -> told(book.containsKey((int) a[1]) ? book.get((int) a[1]).fate() : 0);
            case "invoiceOf" -> told(field(book.get((int) a[1]), a[2]));
            case "total" -> told(book.values().stream()
                    .filter(e -> e.fate() == 2 && e.branch() == a[1]).mapToLong(Entry::cents).sum());
            default -> listByte(s, book, a[1]);
        };
    }

    private boolean open(int s, long year) {
        if (!office.state(s).equals("none") || year < 1 || year > 9999) {
            return false;
        }
        office.states.put(s, "open");
        office.years.put(s, (int) year);
        return true;
    }

    private int strike(long b) {
        if (!isBranch(b) || office.struck.getOrDefault((int) b, false)) {
            return -1;
        }
        office.struck.put((int) b, true);
        int lost = 0;
        for (TreeMap<Integer, Entry> book : office.numbers.values()) {
            for (Map.Entry<Integer, Entry> e : book.entrySet()) {
                if (e.getValue().branch() == b && e.getValue().fate() == 1) {
                    e.setValue(new Entry((int) b, 4, 0, 0, 0));
                    lost++;
                }
            }
        }
        return lost;
    }

    private int close(int s, TreeMap<Integer, Entry> book) {
        if (!office.state(s).equals("open")) {
            return -1;
        }
        for (int k : book.keySet()) {
            if (book.get(k).fate() == 1) {
                return k;
            }
        }
        office.states.put(s, "closed");
        save(count);
        return 0;
    }

    private static long field(Entry e, long field) {
        if (e == null) {
            return -1;
        }
        if (field == 0 || field == 1) {
            return e.fate() != 2 ? -1 : field == 0 ? e.cents() : e.date();
        }
        return field == 2 ? e.branch() : field == 3 && e.fate() == 3 ? e.reason() : -1;
    }

    private String listByte(int s, TreeMap<Integer, Entry> book, long i) {
        if (!office.state(s).equals("closed")) {
            return "-1";
        }
        StringBuilder text = new StringBuilder();
        long total = 0;
        for (Map.Entry<Integer, Entry> line : book.entrySet()) {
            Entry e = line.getValue();
            text.append(line.getKey()).append(switch (e.fate()) {
                case 2 -> " U " + amount(e.cents()) + " " + e.date();
                case 3 -> " V " + e.reason();
                default -> " L";
            }).append('\n');
            total += e.fate() == 2 ? e.cents() : 0;
        }
        text.append("T ").append(amount(total)).append(' ').append(office.years.get(s)).append('\n');
        byte[] bytes = text.toString().getBytes(StandardCharsets.US_ASCII);
        return told(i >= 0 && i < bytes.length ? bytes[(int) i] : -1);
    }

    private static String amount(long cents) {
        return java.math.BigDecimal.valueOf(cents, 2).toPlainString();
    }
}
