import java.io.IOException;
import java.nio.file.Files;
import java.nio.file.Path;
import java.util.ArrayList;
import java.util.Comparator;
import java.util.List;
import java.util.regex.MatchResult;
import java.util.regex.Matcher;
import java.util.regex.Pattern;
import java.util.stream.Stream;

/** README.md: the program and the commands that it shows do what it says of them. */
public final class ReadmeTest {
    private static final Pattern BLOCK = Pattern.compile("(?ms)^```(\\w+)\\n(.*?)^```$");
    // A call of the program, and in the comment behind it the answer before a colon.
    private static final Pattern SAID =
            Pattern.compile("(?m)^( +)(int (\\w+) = )?(x\\.\\w+\\([^;]*\\));( +// )('.'|[\\w-]+): .*$");
    private static final Pattern CALL = Pattern.compile("\\bx\\.(\\w+)\\(");
    private static final Pattern ANSWER = Pattern.compile("(?m)^answer (.*)\\n");
    private static final String FACE = "type clear load size base follows read drop align least walk edit lies tell letter";

    private static final Checks checks = new Checks("README.md");
    private static Path checkout;

    public static void main(String[] args) throws IOException {
        Path made = Files.createTempDirectory("readme");
        try {
            checkout = twinOfCheckout(made);
            checks.test("the program's output and answers are as shown", ReadmeTest::program);
            checks.test("the program shows every call of the face", ReadmeTest::everyCall);
            checks.test("the commands end well", ReadmeTest::commands);
            checks.test("a failing test fails the commands", ReadmeTest::failingTest);
        } finally {
            removeAll(made);
        }
        checks.end();
    }

    /** The commands are run beside the real files, so that the checkout is left as it is. */
    private static Path twinOfCheckout(Path made) throws IOException {
        Path here = Path.of("").toAbsolutePath();
        Path twin = Files.createDirectory(made.resolve("main"));
        Files.createSymbolicLink(twin.resolve("src"), here.resolve("src"));
        Files.createSymbolicLink(made.resolve("shared"), Path.of("../shared").toRealPath());
        Files.writeString(twin.resolve("Example.java"), blocks("java").get(0));
        return twin;
    }

    private static void program() {
        String program = blocks("java").get(0);
        List<String> due = new ArrayList<>();
        List<String> calls = new ArrayList<>();
        Matcher said = SAID.matcher(program);
        while (said.find()) {
            calls.add(said.group(4));
            due.add(value(said.group(6)));
        }
        write("Example.java", said.replaceAll(ReadmeTest::asking));
        Output asked = run(blockWith("Example.java"));
        write("Example.java", program);
        checks.same("exit code", asked.code, 0);
        List<String> answers = new ArrayList<>();
        ANSWER.matcher(asked.text).results().forEach(found -> answers.add(found.group(1)));
        checks.same("answers", answers.size(), due.size());
        for (int k = 0; k < Math.min(answers.size(), due.size()); k++) {
            checks.same(calls.get(k) + " (" + (k + 1) + ")", answers.get(k), due.get(k));
        }
        checks.same("without the answers", ANSWER.matcher(asked.text).replaceAll(""), blocks("text").get(0));
        checks.same("as it stands", run(blockWith("Example.java")).text, blocks("text").get(0));
    }

    private static void everyCall() {
        String program = blocks("java").get(0);
        for (String name : FACE.split(" ")) {
            checks.yes(name, CALL.matcher(program).results().anyMatch(found -> found.group(1).equals(name)));
        }
    }

    private static void commands() {
        for (String block : blocks("sh")) {
            // This test is a part of what .ci/run runs.
            if (block.equals(".ci/run\n")) {
                checks.yes(".ci/run is executable", Files.isExecutable(Path.of(".ci/run")));
            } else {
                Output ended = run(block);
                checks.same("exit code of " + block + ended.text, ended.code, 0);
            }
        }
    }

    private static void failingTest() {
        String wrong = "public final class WrongTest { public static void main(String[] args) {"
                + " Checks checks = new Checks(\"Promise 0\");"
                + " checks.test(\"a test\", () -> checks.same(\"a call\", 1, 2)); checks.end(); } }";
        write("WrongTest.java", wrong);
        String block = blockWith("Promise04LoadTest").replace("src/test/java/*.java", "WrongTest.java")
                .replace("Promise04LoadTest", "WrongTest");
        Output ended = run(block);
        checks.same("exit code", ended.code, 1);
        checks.same("told", ended.text, "Promise 0: a test: a call: 1, due is 2\nPromise 0: 1 tests, 1 answers, 1 wrong\n");
    }

    /** The same line, printing what the call answers. */
    private static String asking(MatchResult said) {
        boolean kept = said.group(3) != null;
        String call = kept ? said.group(3) : said.group(4);
        String before = kept ? said.group(2) + said.group(4) + "; " : "";
        return Matcher.quoteReplacement(before + "System.out.println(\"answer \" + " + call + ");");
    }

    /** What println shows of an answer that is told as a number, a constant, a character or a boolean. */
    private static String value(String told) {
        if (told.startsWith("'")) {
            return String.valueOf((int) told.charAt(1));
        }
        return told.equals("BAD") ? "-1" : told.equals("NONE") ? "-2" : told;
    }

    private static List<String> blocks(String kind) {
        List<String> all = new ArrayList<>();
        Matcher block = BLOCK.matcher(readme());
        while (block.find()) {
            if (block.group(1).equals(kind)) {
                all.add(block.group(2));
            }
        }
        return all;
    }

    private static String blockWith(String words) {
        return blocks("sh").stream().filter(block -> block.contains(words)).findFirst().orElseThrow();
    }

    private static String readme() {
        try {
            return Files.readString(Path.of("README.md"));
        } catch (IOException missing) {
            throw new IllegalStateException("README.md is looked for in the checkout", missing);
        }
    }

    private static void write(String name, String text) {
        try {
            Files.writeString(checkout.resolve(name), text);
        } catch (IOException thrown) {
            throw new IllegalStateException(thrown);
        }
    }

    private static Output run(String block) {
        try {
            ProcessBuilder shell = new ProcessBuilder("sh", "-e", "-c", block);
            shell.environment().put("TMPDIR", checkout.toString());
            // What the tools say beside the output is shown and not compared.
            shell.redirectError(ProcessBuilder.Redirect.INHERIT);
            Process process = shell.directory(checkout.toFile()).start();
            process.getOutputStream().close();
            String text = new String(process.getInputStream().readAllBytes());
            return new Output(process.waitFor(), text);
        } catch (IOException | InterruptedException thrown) {
            throw new IllegalStateException(thrown);
        }
    }

    private static void removeAll(Path made) throws IOException {
        try (Stream<Path> all = Files.walk(made)) {
            for (Path path : all.sorted(Comparator.reverseOrder()).toList()) {
                Files.delete(path);
            }
        }
    }

    private record Output(int code, String text) {
    }
}
