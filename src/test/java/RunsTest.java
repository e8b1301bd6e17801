import java.io.IOException;
import java.nio.file.Files;
import java.nio.file.Path;
import java.util.List;
import java.util.stream.Stream;

/**
 * Plays the runs of calls told in text files: under runs a file for each promise, under edges a run for
 * each sentence of the document that names a boundary. README.md tells the form of a row.
 */
public final class RunsTest {
    private static final List<String> PROMISES = List.of(
            "new", "series", "request", "report", "again", "invoice", "voidNext", "voidUsed",
            "strike", "close", "crash", "mount", "flush", "letters", "letter", "deliver", "drop",
            "twin", "fate", "invoiceOf", "total", "branchFate", "branch", "listByte");

    private int wrong;
    private int rows;
    private Run run;

    public static void main(String[] args) throws IOException {
        RunsTest test = new RunsTest();
        Path tests = Path.of(args.length > 0 ? args[0] : "src/test");
        for (String folder : List.of("runs", "edges")) {
            test.lookForEachPromise(tests.resolve(folder));
            for (Path file : filesOf(tests.resolve(folder))) {
                test.playFile(file);
            }
        }
        System.out.println(test.rows + " rows, " + test.wrong + " wrong");
        if (test.wrong != 0) {
            System.exit(1);
        }
    }

    static List<Path> filesOf(Path folder) throws IOException {
        try (Stream<Path> all = Files.list(folder)) {
            return all.filter(p -> p.toString().endsWith(".txt")).sorted().toList();
        }
    }

    private void lookForEachPromise(Path folder) {
        for (int i = 0; i < PROMISES.size(); i++) {
            String name = String.format("%02d-%s.txt", i + 1, PROMISES.get(i));
            if (!Files.exists(folder.resolve(name))) {
                tell("no " + folder.getFileName() + " for promise " + (i + 1) + ": " + name);
            }
        }
    }

    private void playFile(Path file) throws IOException {
        List<String> lines = Files.readAllLines(file);
        run = null;
        for (int i = 0; i < lines.size(); i++) {
            String line = lines.get(i).strip();
            if (!line.isEmpty() && !line.startsWith("#") && !line.startsWith(">")) {
                rows++;
                String fault = playLine(line);
                if (fault != null) {
                    tell(file.getParent().getFileName() + "/" + file.getFileName() + ":" + (i + 1)
                            + ": " + line + ": " + fault);
                }
            }
        }
    }

    private String playLine(String line) {
        Row row = Row.read(line);
        if (row == null) {
            return "not the form of a row";
        }
        if (row.makesObject()) {
            run = new Run(Math.toIntExact(row.arguments()[0]));
            return null;
        }
        return run == null ? "no object was made" : run.play(row);
    }

    private void tell(String fault) {
        wrong++;
        System.out.println(fault);
    }
}
