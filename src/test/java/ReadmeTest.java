import java.io.File;
import java.io.IOException;
import java.lang.reflect.Method;
import java.lang.reflect.Modifier;
import java.nio.charset.StandardCharsets;
import java.nio.file.Files;
import java.nio.file.Path;
import java.nio.file.StandardCopyOption;
import java.util.ArrayList;
import java.util.Comparator;
import java.util.List;
import java.util.regex.Matcher;
import java.util.regex.Pattern;
import java.util.stream.Stream;

/** README.md: its examples answer what it says, and its commands run the tests. */
public final class ReadmeTest {
    private static final Check CHECK = new Check("ReadmeTest");
    private static final Path MAIN = Path.of("src/main/java/ProofFine.java");
    private static final Path TESTS = Path.of("src/test/java");
    private static final Pattern ANSWER = Pattern.compile("(x\\.\\w+\\([^;]*\\)); *// (-?\\d+): .*");

    private final Path room;
    private final String page;

    private ReadmeTest(Path room) throws IOException {
        this.room = room;
        page = Files.readString(Path.of("README.md"));
    }

    public static void main(String[] args) throws IOException, InterruptedException {
        Path room = Files.createTempDirectory("readme");
        try {
            ReadmeTest test = new ReadmeTest(room);
            test.examples();
            test.allCallsAreNamed();
            test.allTestsAreNamed();
            test.commandForAll();
            test.commandsForOne();
        } finally {
            remove(room);
        }
        CHECK.end();
    }

    /** Every example is compiled as it stands, each answer that it tells being looked at. */
    private void examples() throws IOException, InterruptedException {
        List<String> blocks = blocks("java");
        CHECK.due("examples", blocks.size(), 2);
        for (int i = 0; i < blocks.size(); i++) {
            String name = "Example" + i;
            String body = ANSWER.matcher(blocks.get(i)).replaceAll("due(\"$1\", $1, $2);");
            long told = ANSWER.matcher(blocks.get(i)).results().count();
            CHECK.holds(name + " tells answers", told >= 8);
            Path file = write(room.resolve(name + ".java"), "public final class " + name + " {\n"
                + "static void due(String call, long got, long want) {\n"
                + "System.out.println((got == want ? \"good \" : \"wrong \") + call + \" answered \" + got);\n}\n"
                + "public static void main(String[] args) {\n" + body + "}\n}\n");
            Ran compiled = run(Path.of("."), "javac", "-d", room.toString(), MAIN.toString(), file.toString());
            CHECK.due(name + " compiles: " + compiled.said, compiled.code, 0);
            Ran ran = run(Path.of("."), "java", "-cp", room.toString(), name);
            CHECK.due(name + " ends: " + ran.said, ran.code, 0);
            CHECK.due(name + ": " + ran.said, count(ran.said, "(?m)^good "), told);
        }
    }

    private void allCallsAreNamed() {
        for (Method m : ProofFine.class.getDeclaredMethods()) {
            if (Modifier.isPublic(m.getModifiers())) {
                CHECK.holds(m.getName() + " is named", page.contains("`" + m.getName() + "`"));
            }
        }
    }

    /** What has a main is named so that .ci/run finds it, and stands on the page. */
    private void allTestsAreNamed() throws IOException {
        for (Path file : filesOf(TESTS)) {
            String name = file.getFileName().toString().replace(".java", "");
            if (Files.readString(file).contains("public static void main(")) {
                CHECK.holds(name + " is named as a test", name.endsWith("Test"));
                CHECK.holds(name + " stands on the page", name.endsWith("EdgesTest") || page.contains("`" + name + "`"));
            }
        }
    }

    /** The first command runs every test of both folders, and fails if one fails: seen on small ones. */
    private void commandForAll() throws IOException, InterruptedException {
        String command = blocks("sh").get(0).trim();
        CHECK.holds("one command: " + command, !command.contains("\n"));
        List<Case> cases = new ArrayList<>();
        cases.add(new Case(smallTree("good"), command, "FirstTest", "SecondTest", "ThirdRuns", "Fourth"));

        Path main = smallTree("own");
        testThatEnds(main.resolve(TESTS), "FirstTest", 1);
        cases.add(new Case(main, command, "SecondTest", "ThirdRuns", "Fourth"));

        main = smallTree("shared");
        testThatEnds(sharedOf(main), "ThirdRuns", 1);
        cases.add(new Case(main, command, "FirstTest", "SecondTest", "Fourth"));

        main = smallTree("ownUncompiled");
        write(main.resolve(TESTS).resolve("Helper.java"), "final class Helper { int no = ProofFine.NO; }\n");
        cases.add(new Case(main, command, "ThirdRuns", "Fourth"));

        main = smallTree("sharedUncompiled");
        write(sharedOf(main).resolve("Fourth.java"), "public final class Fourth { int no = ProofFine.NO; }\n");
        cases.add(new Case(main, command, "FirstTest", "SecondTest", "ThirdRuns"));

        main = smallTree("noneShared");
        remove(sharedOf(main));
        cases.add(new Case(main, command, "FirstTest", "SecondTest"));

        for (Case one : cases) {
            one.check();
        }
    }

    /** A checkout with two tests of its own and two beside it, all of which pass. */
    private Path smallTree(String name) throws IOException {
        Path main = room.resolve(name).resolve("main");
        copy(Path.of(".ci/run"), main);
        copy(MAIN, main);
        testThatEnds(main.resolve(TESTS), "FirstTest", 0);
        testThatEnds(main.resolve(TESTS), "SecondTest", 0);
        write(main.resolve(TESTS).resolve("Helper.java"), "final class Helper { }\n");
        testThatEnds(sharedOf(main), "ThirdRuns", 0);
        testThatEnds(sharedOf(main), "Fourth", 0);
        return main;
    }

    private static Path sharedOf(Path main) {
        return main.resolveSibling("shared").resolve("tests");
    }

    /** A command that was begun in a small tree, with the tests that must pass there; all four, or it fails. */
    private static final class Case {
        private final Path main;
        private final Process process;
        private final String[] good;

        Case(Path main, String command, String... good) throws IOException {
            this.main = main;
            this.good = good;
            process = begin(main, "bash", "-c", command);
        }

        void check() throws IOException, InterruptedException {
            Ran ran = end(process);
            String what = main + " ended with " + ran.code + ": " + ran.said;
            boolean lands = good.length == 4;
            CHECK.holds(what, lands == (ran.code == 0));
            CHECK.holds(what, ran.said.endsWith(good.length + " passed, " + (lands ? 0 : 1) + " failed\n"));
            CHECK.due(what, count(ran.said, "(?m)^ok: "), good.length);
            for (String name : good) {
                CHECK.holds(what, ran.said.contains("ok: " + name + "\n"));
            }
        }
    }

    /** The commands for one test run it, as they stand, one line behind another. */
    private void commandsForOne() throws IOException, InterruptedException {
        Path main = room.resolve("one/main");
        copy(MAIN, main);
        for (Path file : filesOf(TESTS)) {
            copy(file, main);
        }
        String commands = blocks("sh").get(1);
        Ran ran = run(main, "bash", "-e", "-c", commands);
        CHECK.due(commands + ran.said, ran.code, 0);
        Matcher test = Pattern.compile("java -cp \\S+ (\\w+Test)").matcher(commands);
        int many = 0;
        while (test.find()) {
            many++;
            String said = test.group(1) + ": [1-9][0-9]* asked, 0 wrong";
            CHECK.due(said, count(ran.said, said), 1);
        }
        CHECK.due("tests run alone", many, 2);
    }

    private List<String> blocks(String kind) {
        List<String> found = new ArrayList<>();
        Matcher block = Pattern.compile("(?ms)^```" + kind + "\n(.*?)^```$").matcher(page);
        while (block.find()) {
            found.add(block.group(1));
        }
        return found;
    }

    private static void testThatEnds(Path folder, String name, int code) throws IOException {
        write(folder.resolve(name + ".java"), "public final class " + name + " {\n"
            + "public static void main(String[] args) { System.exit(ProofFine.BAD + 1 + " + code + "); }\n}\n");
    }

    private static Path write(Path file, String text) throws IOException {
        Files.createDirectories(file.getParent());
        return Files.writeString(file, text);
    }

    private static void copy(Path file, Path main) throws IOException {
        Path to = main.resolve(file);
        Files.createDirectories(to.getParent());
        Files.copy(file, to, StandardCopyOption.COPY_ATTRIBUTES);
    }

    private static List<Path> filesOf(Path folder) throws IOException {
        try (Stream<Path> files = Files.list(folder)) {
            return files.sorted().toList();
        }
    }

    private static void remove(Path room) throws IOException {
        try (Stream<Path> files = Files.walk(room)) {
            files.sorted(Comparator.reverseOrder()).map(Path::toFile).forEach(File::delete);
        }
    }

    private static long count(String text, String pattern) {
        return Pattern.compile(pattern).matcher(text).results().count();
    }

    /** How a command ended, and all that it said. */
    private record Ran(int code, String said) { }

    private static Ran run(Path folder, String... command) throws IOException, InterruptedException {
        return end(begin(folder, command));
    }

    private static Process begin(Path folder, String... command) throws IOException {
        return new ProcessBuilder(command).directory(folder.toFile()).redirectErrorStream(true).start();
    }

    private static Ran end(Process process) throws IOException, InterruptedException {
        String said = new String(process.getInputStream().readAllBytes(), StandardCharsets.UTF_8);
        return new Ran(process.waitFor(), said);
    }
}
