import java.io.IOException;
import java.lang.reflect.Field;
import java.lang.reflect.Method;
import java.lang.reflect.Modifier;
import java.nio.charset.StandardCharsets;
import java.nio.file.Files;
import java.nio.file.Path;
import java.util.ArrayList;
import java.util.Comparator;
import java.util.List;
import java.util.Set;
import java.util.TreeSet;
import java.util.regex.Matcher;
import java.util.regex.Pattern;
import java.util.stream.Collectors;
import java.util.stream.Stream;

/** README.md works as it is written: its program and what that prints, its calls and their answers, its commands. */
public final class ReadmeTest {
    private static final Pattern BLOCK = Pattern.compile("```(\\w+)\n(.*?)```\n", Pattern.DOTALL);
    private static final Pattern PROGRAM = Pattern.compile("public final class (\\w+)");
    private static final Pattern ANSWERED = Pattern.compile("(desk\\.\\w+\\(.*\\)); +// (-?[0-9]+): .+");
    /** This test is run by it. */
    private static final String RUN_ALL = ".ci/run\n";

    private record Block(String language, String text) { }

    private record Ended(int code, String printed) { }

    private final Check check;
    private final String page;
    private final List<Block> blocks = new ArrayList<>();
    /** A folder like this one, where the commands leave what they make. */
    private final Path folder;

    private ReadmeTest(Check check, String page, Path folder) {
        this.check = check;
        this.page = page;
        this.folder = folder;
        Matcher block = BLOCK.matcher(page);
        while (block.find()) {
            blocks.add(new Block(block.group(1), block.group(2)));
        }
    }

    public static void main(String[] args) throws Exception {
        Check check = new Check();
        Path room = Files.createTempDirectory("readme");
        try {
            Path folder = Files.createDirectory(room.resolve("main"));
            for (String name : new String[] {"src", ".ci"}) {
                Files.createSymbolicLink(folder.resolve(name), Path.of(name).toRealPath());
            }
            Files.createSymbolicLink(room.resolve("shared"), Path.of("../shared").toRealPath());
            ReadmeTest test = new ReadmeTest(check, Files.readString(Path.of("README.md")), folder);
            test.names();
            test.tests();
            test.blocks();
            test.answers();
        } finally {
            remove(room);
        }
        check.close("ReadmeTest");
    }

    private static void remove(Path room) throws IOException {
        try (Stream<Path> all = Files.walk(room)) {
            for (Path path : all.sorted(Comparator.reverseOrder()).toList()) {
                Files.delete(path);
            }
        }
    }

    /** All of the face is on the page. */
    private void names() {
        for (Method method : OdometryDesk.class.getDeclaredMethods()) {
            if (Modifier.isPublic(method.getModifiers())) {
                check.holds("the page has a call of " + method.getName(), page.contains("desk." + method.getName() + "("));
            }
        }
        for (Field field : OdometryDesk.class.getDeclaredFields()) {
            if (Modifier.isPublic(field.getModifiers())) {
                check.holds("the page names " + field.getName(), page.contains("`" + field.getName() + "`"));
            }
        }
    }

    /** The tests on the page are those that there are. */
    private void tests() throws IOException {
        Set<String> told = new TreeSet<>();
        Matcher test = Pattern.compile("\n- `(\\w+Test)`: ").matcher(page);
        while (test.find()) {
            told.add(test.group(1) + ".java");
        }
        try (Stream<Path> all = Files.list(Path.of("src/test/java"))) {
            Set<String> found = all.map(path -> path.getFileName().toString()).filter(name -> name.endsWith("Test.java"))
                .collect(Collectors.toCollection(TreeSet::new));
            check.holds("the page tells of " + told + ", there are " + found, told.equals(found));
        }
    }

    /** One after the other: programs are written to their files, commands are given, and they print what is said. */
    private void blocks() throws Exception {
        String printed = "";
        int commands = 0;
        for (Block block : blocks) {
            Matcher program = PROGRAM.matcher(block.text);
            if (block.language.equals("java") && program.find()) {
                Files.writeString(folder.resolve(program.group(1) + ".java"), block.text);
            } else if (block.language.equals("text")) {
                check.holds("is printed:\n" + printed + "is said:\n" + block.text, printed.equals(block.text));
            } else if (block.text.equals(RUN_ALL)) {
                check.holds(".ci/run can be run", Files.isExecutable(Path.of(".ci/run")));
                commands++;
            } else if (block.language.equals("sh")) {
                printed = given(block.text);
                commands++;
            }
        }
        check.due("blocks of commands", commands, 4);
    }

    /** The calls of the page, each with the answer that stands behind it. */
    private void answers() throws Exception {
        StringBuilder calls = new StringBuilder();
        int answered = 0;
        for (Block block : blocks) {
            if (!block.language.equals("java") || PROGRAM.matcher(block.text).find()) {
                continue;
            }
            for (String line : block.text.split("\n")) {
                Matcher call = ANSWERED.matcher(line);
                boolean isAnswered = call.matches();
                check.holds("an answer stands behind " + line, isAnswered || !line.startsWith("desk."));
                calls.append(isAnswered ? "System.out.println(" + call.group(1) + " - (" + call.group(2) + "L) + \" "
                    + line.replace("\"", "'") + "\");" : line).append('\n');
                answered += isAnswered ? 1 : 0;
            }
        }
        Files.writeString(folder.resolve("Calls.java"),
            "final class Calls { public static void main(String[] a) {\n" + calls + "} }\n");
        String printed = given("javac -d out src/main/java/OdometryDesk.java Calls.java\njava -cp out Calls\n");
        for (String line : printed.split("\n")) {
            check.holds("too great by " + line, line.startsWith("0 "));
        }
        check.due("answers", printed.split("\n").length, answered);
    }

    private String given(String commands) throws Exception {
        Ended ended = ended(commands);
        check.due("in " + folder + ":\n" + commands + ended.printed + "its exit code", ended.code, 0);
        return ended.printed;
    }

    private Ended ended(String commands) throws Exception {
        Process process = new ProcessBuilder("sh", "-e", "-c", commands).directory(folder.toFile())
            .redirectErrorStream(true).start();
        process.getOutputStream().close();
        String printed = new String(process.getInputStream().readAllBytes(), StandardCharsets.UTF_8);
        return new Ended(process.waitFor(), printed);
    }
}
