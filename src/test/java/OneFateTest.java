import java.util.ArrayList;
import java.util.List;
import java.util.Random;
import java.util.TreeSet;

/**
 * What the document is about, of runs of chance from fixed seeds: whatever letters were lost or doubled
 * and whichever side broke down, when all is up and told again the numbers have no gap, each has one
 * holder and one fate, the same on both sides, no invoice is lost or has another's number, and the list
 * has a line for each number. Only answers are compared with answers: no second writing is needed.
 */
public final class OneFateTest {
    private static final int RUNS = 2000;
    private static final int MOST_TOLD = 5;
    private static final int ACTS = 180;
    private static final int ROUNDS = 12;
    private static final int NOT_GIVEN = 0;
    private static final int OUT = 1;
    private static final int USED = 2;
    private static final int VOID = 3;
    private static final int LOST = 4;
    private static final String LETTERS = "..UVL";

    private final Random chance;
    private final int branches;
    private final int s;
    private final Tape tape;
    private final TreeSet<Integer> invoiced = new TreeSet<>();
    private final TreeSet<Integer> struck = new TreeSet<>();
    private final List<String> faults = new ArrayList<>();
    private int[] fates = {};

    private OneFateTest(long seed) {
        chance = new Random(seed);
        branches = 1 + chance.nextInt(3);
        s = chance.nextInt(3);
        tape = new Tape(branches);
    }

    public static void main(String[] args) {
        int wrong = 0;
        int[] seen = new int[LOST + 1];
        for (long seed = 1; seed <= RUNS && wrong < MOST_TOLD; seed++) {
            OneFateTest run = new OneFateTest(seed);
            run.play();
            for (int fate : run.fates) {
                seen[fate]++;
            }
            if (!run.faults.isEmpty()) {
                wrong++;
                System.out.println("seed " + seed + ": " + run.faults + " behind " + run.tape);
            }
        }
        System.out.println(RUNS + " runs, " + wrong + " wrong; numbers used " + seen[USED] + ", void "
                + seen[VOID] + ", lost " + seen[LOST]);
        if (wrong != 0 || seen[USED] == 0 || seen[VOID] == 0 || seen[LOST] == 0) {
            System.exit(1);
        }
    }

    private void play() {
        tape.call("series", s, 2025);
        tape.call("flush", branches);
        for (int i = 0; i < ACTS; i++) {
            act(chance.nextInt(20));
        }
        comeUp();
        if (chance.nextInt(3) == 0) {
            strikeOne();
        }
        for (int round = 0; round < ROUNDS; round++) {
            tellEverything();
        }
        lookAtNumbers(tape.again());
        lookAtBranches();
        lookAtList(tape.again());
        if (tape.room() < 0) {
            faults.add("too many calls");
        }
    }

    private void act(int kind) {
        int b = chance.nextInt(branches);
        switch (kind) {
            case 0, 1 -> tape.call("request", b, s, 1 + chance.nextInt(3));
            case 2, 3 -> tape.call("report", b, s);
            case 4, 5, 6 -> noteInvoice(tape.call("invoice", b, s, 1 + chance.nextInt(300), 5));
            case 7 -> tape.call("voidNext", b, s, 1 + chance.nextInt(99));
            case 8 -> tape.call("voidUsed", b, s, 1 + chance.nextInt(9), 1 + chance.nextInt(99));
            case 9 -> tape.call("again", b);
            case 10 -> tape.call("twin", chance.nextInt(3));
            case 11 -> tape.call("drop", chance.nextInt(3));
            case 12 -> tape.call("crash", chance.nextInt(branches + 1));
            case 13 -> tape.call("mount", chance.nextInt(branches + 1));
            case 14 -> comeUp();
            default -> tape.call("deliver", chance.nextInt(3));
        }
    }

    private void noteInvoice(String answer) {
        if (!answer.equals("-1") && !answer.equals(Calls.THROWS)
                && !invoiced.add(Integer.parseInt(answer))) {
            faults.add("two invoices with the number " + answer);
        }
    }

    private void comeUp() {
        for (int side = 0; side <= branches; side++) {
            tape.call("mount", side);
        }
    }

    private void strikeOne() {
        int b = chance.nextInt(branches);
        tape.call("strike", b);
        struck.add(b);
    }

    /** Each branch brings one thing further; behind enough rounds nothing is left to tell. */
    private void tellEverything() {
        for (int b = 0; b < branches; b++) {
            tape.call("again", b);
            tape.call("report", b, s);
            while (tape.value("letters") > 0 && tape.room() > 0) {
                tape.call("deliver", 0);
            }
            while (tape.room() > 0 && tape.value("voidNext", b, s, 1) != -1) {
                tape.call("flush", b);
            }
        }
    }

    private void lookAtNumbers(Tape looks) {
        int given = 0;
        while (looks.room() > 0 && looks.value("fate", s, given + 1) != NOT_GIVEN) {
            given++;
        }
        if (looks.value("fate", s, given + 2) != NOT_GIVEN) {
            faults.add("a gap behind " + given);
        }
        fates = new int[given];
        for (int i = 0; i < given; i++) {
            fates[i] = looks.value("fate", s, i + 1);
            if (fates[i] == OUT) {
                faults.add("still out: " + (i + 1));
            }
        }
        for (int number : invoiced) {
            if (number > given || fates[number - 1] == LOST && struck.isEmpty()) {
                faults.add("a lost invoice: " + number);
            }
        }
    }

    private void lookAtBranches() {
        for (int b = 0; b < branches; b++) {
            Tape looks = tape.again();
            for (int number = 1; number <= fates.length; number++) {
                int holder = looks.value("invoiceOf", s, number, 2);
                int known = looks.value("branchFate", b, s, number);
                boolean agrees = holder == b ? known == fates[number - 1] : known == NOT_GIVEN;
                // What a struck branch did behind its last report is not known to the office.
                if (!agrees && !struck.contains(b)) {
                    faults.add("branch " + b + " has fate " + known + " of " + number + " of branch "
                            + holder + ", the office " + fates[number - 1]);
                }
            }
        }
    }

    private void lookAtList(Tape looks) {
        if (looks.value("close", s) != 0) {
            faults.add("not closed");
            return;
        }
        StringBuilder text = new StringBuilder();
        for (int got = looks.value("listByte", s, 0); got != -1 && looks.room() > 0;) {
            text.append((char) got);
            got = looks.value("listByte", s, text.length());
        }
        String[] lines = text.toString().split("\n");
        for (int i = 0; i < lines.length && i < fates.length && looks.room() > 0; i++) {
            if (!lines[i].startsWith((i + 1) + " " + LETTERS.charAt(fates[i]))) {
                faults.add("the line " + lines[i]);
            }
        }
        if (looks.room() > 0 && lines.length != fates.length + 1) {
            faults.add(lines.length + " lines for " + fates.length + " numbers");
        }
    }
}
