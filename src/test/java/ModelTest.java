import java.util.Arrays;
import java.util.Random;
import java.util.TreeMap;

/** Runs of chance, from fixed seeds, on the class and on the model: every answer is the same. */
public final class ModelTest {
    private static final int RUNS = 6000;
    private static final int WIND_UP = 450;
    private static final int MOST_TOLD = 10;
    private static final int[] EDGES = {
        Integer.MIN_VALUE, -1, 0, 1, 2, 3, 6, 7, 30, 63, 64, 99, 100, 101, 299, 300, 301, 9999, 10000,
        Integer.MAX_VALUE};
    private static final long[] CENT_EDGES = {
        Long.MIN_VALUE, -1, 0, 1, 9, 10, 99, 100, 101, 999_999_999_999L, 1_000_000_000_000L,
        1_000_000_000_001L, Long.MAX_VALUE};

    private final Random chance;
    private final int branches;
    private final int style;
    private final NumberOffice office;
    private final Model model;
    private final TreeMap<String, Integer> seen;

    private ModelTest(long seed, TreeMap<String, Integer> seen) {
        chance = new Random(seed);
        branches = 1 + chance.nextInt(6);
        style = chance.nextInt(4);
        office = new NumberOffice(branches);
        model = new Model(branches);
        this.seen = seen;
    }

    public static void main(String[] args) {
        TreeMap<String, Integer> seen = new TreeMap<>();
        int wrong = 0;
        for (long seed = 1; seed <= RUNS && wrong < MOST_TOLD; seed++) {
            String fault = new ModelTest(seed, seen).play();
            if (fault != null) {
                wrong++;
                System.out.println("seed " + seed + ": " + fault);
            }
        }
        System.out.println(RUNS + " runs, " + wrong + " wrong; answers by kind: " + seen);
        if (wrong != 0) {
            System.exit(1);
        }
    }

    /** The first call whose answers differ, or null. */
    private String play() {
        for (int i = 0; i < Calls.MOST; i++) {
            String name = nextName(i);
            long[] a = arguments(name);
            String due = model.call(name, a);
            String got = Calls.answer(office, name, a);
            String kind = due.equals("true") || due.equals(Calls.THROWS) || due.equals("-1")
                    || due.equals("false") ? due : "value";
            seen.merge(name + " " + kind, 1, Integer::sum);
            if (!got.equals(due)) {
                return "call " + (i + 1) + " of " + branches + " branches: " + name
                        + Arrays.toString(a) + " answered " + got + ", the model " + due;
            }
        }
        return null;
    }

    private String nextName(int i) {
        String[] often = {"deliver", "deliver", "deliver", "request", "report", "invoice", "invoice",
            "voidNext", "voidUsed", "again"};
        String[] looks = {"letters", "letter", "fate", "invoiceOf", "total", "branchFate", "branch",
            "listByte"};
        String[] rare = {chance.nextInt(3) < style ? "flush" : "crash", "mount", "mount", "mount",
            "flush", "twin", "drop", "drop"};
        int pick = chance.nextInt(100);
        if (i < 3 || pick == 0) {
            return "series";
        }
        // Late, so that most series have numbers when they are closed.
        if (pick < 4 && i > Calls.MOST / 2) {
            return chance.nextInt(5) == 0 ? "strike" : "close";
        }
        if (i > WIND_UP) {
            return any(new String[] {"strike", "close", "listByte", "listByte", "mount", "deliver"});
        }
        if (style == 1 && pick < 12) {
            return "twin";
        }
        if (style == 2 && pick < 30) {
            return "invoice";
        }
        return pick < 70 ? any(often) : pick < 92 ? any(looks) : any(rare);
    }

    private String any(String[] names) {
        return names[chance.nextInt(names.length)];
    }

    /** Mostly of use, now and then an edge. */
    private int some(int below) {
        return chance.nextInt(40) == 0 ? EDGES[chance.nextInt(EDGES.length)] : chance.nextInt(below);
    }

    private int number() {
        return some(chance.nextBoolean() ? 20 : 310);
    }

    private int series() {
        return style == 3 ? some(1) : some(3);
    }

    private int place() {
        return chance.nextInt(3) != 0 ? 0 : some(8);
    }

    private long cents() {
        return chance.nextInt(10) == 0
                ? CENT_EDGES[chance.nextInt(CENT_EDGES.length)] : 1 + chance.nextInt(30000);
    }

    private int date() {
        return chance.nextInt(30) == 0 ? EDGES[chance.nextInt(EDGES.length)] : chance.nextInt(5) - 2;
    }

    private long[] arguments(String name) {
        return switch (name) {
            case "series" -> new long[] {some(3), 1 + some(9999)};
            case "request" -> new long[] {some(branches), series(), 1 + some(style == 3 ? 100 : 6)};
            case "report" -> new long[] {some(branches), series()};
            case "invoice" -> new long[] {some(branches), series(), cents(), date()};
            case "voidNext" -> new long[] {some(branches), series(), 1 + some(99)};
            case "voidUsed" -> new long[] {some(branches), series(), number(), 1 + some(99)};
            case "strike", "again" -> new long[] {some(branches)};
            case "close" -> new long[] {series()};
            case "crash", "mount", "flush" -> new long[] {some(branches + 1)};
            case "letters" -> new long[] {};
            case "letter" -> new long[] {place(), some(3)};
            case "deliver", "drop", "twin" -> new long[] {place()};
            case "fate" -> new long[] {series(), number()};
            case "invoiceOf" -> new long[] {series(), number(), some(4)};
            case "total" -> new long[] {series(), some(branches)};
            case "branchFate" -> new long[] {some(branches), series(), number()};
            case "branch" -> new long[] {some(branches), some(6)};
            default -> new long[] {series(), some(chance.nextBoolean() ? 20 : 600)};
        };
    }
}
