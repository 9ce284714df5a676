import java.io.IOException;
import java.nio.file.Files;
import java.nio.file.Path;
import java.util.ArrayList;
import java.util.List;
import java.util.regex.Matcher;
import java.util.regex.Pattern;

/** README.md's example, call by call: each answers what the README says behind it. */
public final class ReadmeTest {
    private static final Path README = Path.of("README.md");
    private static final AlignedRuns x = new AlignedRuns();
    private static final List<String> ran = new ArrayList<>();

    public static void main(String[] args) throws IOException {
        List<String> calls = new ArrayList<>();
        List<String> answers = new ArrayList<>();
        readExample(Files.readString(README), calls, answers);
        objectAndColumn();
        question();
        wordsFromOutside();
        faultsAndRefusals();
        Check.due("calls of the example", calls.size() + " calls", ran.size() + " calls");
        for (int i = 0; i < Math.min(calls.size(), ran.size()); i++) {
            Check.due("README's call " + i + ", " + calls.get(i), calls.get(i) + " // " + answers.get(i), ran.get(i));
        }
        howToRunItsTests(Files.readString(README));
        Check.end("ReadmeTest");
    }

    private static void readExample(String text, List<String> calls, List<String> answers) {
        Matcher line = Pattern.compile("(?m)^(x\\.\\w+\\([^;]*\\);) +// ([^:;\\n,]*)").matcher(text);
        while (line.find()) {
            calls.add(line.group(1));
            answers.add(line.group(2));
        }
    }

    private static void run(String text, Check.Call call) {
        ran.add(text + " // " + Check.answerOf(call));
    }

    private static void objectAndColumn() {
        run("x.told(0);", () -> x.told(0));
        run("x.told(1);", () -> x.told(1));
        run("x.feed(0x72616e67, 0x65203130, 0x20782031, 0x30206f66, 0x20313030);",
            () -> x.feed(0x72616e67, 0x65203130, 0x20782031, 0x30206f66, 0x20313030));
        run("x.column(20);", () -> x.column(20));
        run("x.add(37, 0, 0, 0);", () -> x.add(37, 0, 0, 0));
        run("x.add(99, 0, 0, 0);", () -> x.add(99, 0, 0, 0));
        run("x.many(28, 50, 0, 0, 0);", () -> x.many(28, 50, 0, 0, 0));
    }

    private static void question() {
        run("x.feed(0x6c652830, 0x2c353029, 0, 0, 0);", () -> x.feed(0x6c652830, 0x2c353029, 0, 0, 0));
        run("x.ask(0, 8);", () -> x.ask(0, 8));
        run("x.select(0, 0);", () -> x.select(0, 0));
        run("x.next(0, 1);", () -> x.next(0, 1));
        run("x.has(0, 1);", () -> x.has(0, 1));
        run("x.sum(0, 0);", () -> x.sum(0, 0));
        run("x.result(0, 1);", () -> x.result(0, 1));
        run("x.word(0, 0);", () -> x.word(0, 0));
        run("x.word(0, 1);", () -> x.word(0, 1));
        run("x.cost(0);", () -> x.cost(0));
        run("x.cost(1);", () -> x.cost(1));
        run("x.cost(2);", () -> x.cost(2));
        run("x.foretold(4, 0, 50, 0);", () -> x.foretold(4, 0, 50, 0));
    }

    private static void wordsFromOutside() {
        run("x.feed(0x0003c001, 0, 0, 0, 0);", () -> x.feed(0x0003c001, 0, 0, 0, 0));
        run("x.load(1, 4);", () -> x.load(1, 4));
        run("x.logic(3, 1, 0, 2);", () -> x.logic(3, 1, 0, 2));
        run("x.select(2, 0);", () -> x.select(2, 0));
    }

    private static void faultsAndRefusals() {
        run("x.feed(0x6c652830, 0x3b353029, 0, 0, 0);", () -> x.feed(0x6c652830, 0x3b353029, 0, 0, 0));
        run("x.ask(0, 8);", () -> x.ask(0, 8));
        run("x.fault();", () -> x.fault());
        run("x.feed(0x00000000, 0, 0, 0, 0);", () -> x.feed(0x00000000, 0, 0, 0, 0));
        run("x.load(1, 4);", () -> x.load(1, 4));
        run("x.fault();", () -> x.fault());
        run("x.delete(30);", () -> x.delete(30));
        run("x.add(100, 0, 0, 0);", () -> x.add(100, 0, 0, 0));
        run("x.column(0);", () -> x.column(0));
        run("x.status(0);", () -> x.status(0));
        run("x.status(1);", () -> x.status(1));
        run("x.status(2);", () -> x.status(2));
        run("x.told(2);", () -> x.told(2));
    }

    private static void howToRunItsTests(String text) throws IOException {
        Check.due("README says how to run the tests", true, () -> text.contains("\n    .ci/run\n"));
        try (var files = Files.list(Path.of("src/test/java"))) {
            for (Path file : files.sorted().toList()) {
                String name = file.getFileName().toString().replace(".java", "");
                Check.due("README tells of " + name, true, () -> text.contains("`" + name + "`"));
            }
        }
    }
}
