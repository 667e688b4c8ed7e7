import java.io.ByteArrayOutputStream;
import java.io.PrintStream;
import java.lang.reflect.Field;
import java.lang.reflect.Method;
import java.lang.reflect.Modifier;
import java.net.URL;
import java.net.URLClassLoader;
import java.nio.file.Files;
import java.nio.file.Path;
import java.util.ArrayList;
import java.util.List;
import java.util.regex.Matcher;
import java.util.regex.Pattern;
import java.util.stream.Stream;
import javax.tools.JavaCompiler;
import javax.tools.ToolProvider;

/**
 * README.md is taken at its word: its program is compiled and run and has to print what the page says, its rows of calls
 * are compiled as they stand, and each call that has an answer behind it has to give that one.
 */
public final class ReadmeTest {
    private static final Pattern BLOCK = Pattern.compile("(?ms)^```(java|text)\n(.*?)^```$");
    private static final Pattern ANSWERED =
            Pattern.compile("(\\w+\\.(\\w+)\\(.*\\)); +// (-?\\d+|NONE|UNKNOWN|OUTSIDE|STATE|FULL)(?:: .+)?");
    private static final String[] CONSTANTS = {"NONE", "UNKNOWN", "OUTSIDE", "STATE", "FULL"};

    private final String page;
    private final List<String> programs = new ArrayList<>();
    private final List<String> texts = new ArrayList<>();
    private final List<String> answeredCalls = new ArrayList<>();

    private ReadmeTest(String page) {
        this.page = page;
        Matcher block = BLOCK.matcher(page);
        while (block.find()) {
            (block.group(1).equals("java") ? programs : texts).add(block.group(2));
        }
    }

    public static void main(String[] args) throws Exception {
        ReadmeTest readme = new ReadmeTest(Files.readString(Path.of("README.md")));
        Due.holds("README.md shows a program and rows of calls", readme.programs.size() >= 2 && readme.texts.size() >= 1);
        readme.programPrintsWhatThePageSays();
        readme.callsAnswerAsThePageSays();
        readme.everyMemberIsShown();
        readme.placesAreDrawnAsTheyAre();
        readme.commandsAndTestsAreThere();
        Due.end();
    }

    private void programPrintsWhatThePageSays() throws Exception {
        String printed = printedBy("Try", programs.get(0));
        Due.holds("the program printed\n" + printed + "README.md says\n" + texts.get(0), printed.equals(texts.get(0)));
    }

    private void callsAnswerAsThePageSays() throws Exception {
        StringBuilder body = new StringBuilder();
        for (String block : programs.subList(1, programs.size())) {
            for (String line : block.split("\n")) {
                body.append(checked(line)).append('\n');
            }
        }
        for (String name : CONSTANTS) {
            body.insert(0, "final int " + name + " = LeftProfile." + name + ";\n");
        }
        String wrong = printedBy("Rows", "public final class Rows {\npublic static void main(String[] args) {\n" + body
                + "}\nprivate static void due(String call, long got, long want) {\nif (got != want) {\n"
                + "System.out.println(call + \" answered \" + got + \", README.md says \" + want);\n}\n}\n}\n");
        Due.holds(wrong, wrong.isEmpty());
        Due.holds("hardly a call of README.md has an answer", answeredCalls.size() >= 60);
    }

    /** A row that has an answer behind it becomes a comparison; another one stays, and may hold no bare call. */
    private String checked(String line) {
        Matcher row = ANSWERED.matcher(line);
        if (row.matches()) {
            answeredCalls.add(row.group(2));
            String answer = row.group(3).matches("-?\\d+") ? row.group(3) + "L" : row.group(3);
            return "due(\"" + row.group(1).replace("\"", "\\\"") + "\", " + row.group(1) + ", " + answer + ");";
        }
        Due.holds("README.md shows no answer: " + line, !line.matches("\\w+\\..*"));
        return line;
    }

    private void everyMemberIsShown() throws Exception {
        for (Method m : LeftProfile.class.getDeclaredMethods()) {
            if (Modifier.isPublic(m.getModifiers())) {
                Due.holds("README.md shows no answer of " + m.getName(), answeredCalls.contains(m.getName()));
            }
        }
        for (Field f : LeftProfile.class.getFields()) {
            Due.holds("README.md does not say " + f.getName(), page.contains("`" + f.getName() + "`"));
            Due.holds("README.md shows no " + f.getName(), page.contains("// " + f.getName()));
        }
    }

    private void placesAreDrawnAsTheyAre() {
        StringBuilder drawn = new StringBuilder();
        for (int place = 0; place < 20; place++) {
            drawn.append(String.format("%2d", place)).append(place % 5 == 4 ? '\n' : ' ');
        }
        Due.holds("README.md draws the PLACES otherwise", texts.contains(drawn.toString()));
    }

    /** Who follows the page finds what it names, and no test is left out of it. */
    private void commandsAndTestsAreThere() throws Exception {
        Due.holds("README.md does not say .ci/run", page.contains("\n    .ci/run\n"));
        Due.holds(".ci/run can't be run", Files.isExecutable(Path.of(".ci/run")));
        Due.holds("README.md does not say how to compile",
                page.contains("\n    javac -d out src/main/java/LeftProfile.java Try.java\n    java -cp out Try\n"));
        Due.holds("there is no class where README.md says", Files.exists(Path.of("src/main/java/LeftProfile.java")));
        try (Stream<Path> files = Files.list(Path.of("src/test/java"))) {
            for (Path file : files.toList()) {
                String name = file.getFileName().toString().replace(".java", "");
                Due.holds("README.md does not name " + name, !name.endsWith("Test") || page.contains("\n- `" + name + "`: "));
            }
        }
        Matcher named = Pattern.compile("`(\\w+Test)`").matcher(page);
        while (named.find()) {
            Due.holds("there is no " + named.group(1), Files.exists(Path.of("src/test/java", named.group(1) + ".java")));
        }
    }

    /** What the main method of such a class prints. */
    private static String printedBy(String name, String source) throws Exception {
        Path folder = Files.createTempDirectory("readme");
        Path file = Files.writeString(folder.resolve(name + ".java"), source);
        JavaCompiler compiler = ToolProvider.getSystemJavaCompiler();
        int failed = compiler.run(null, null, null, "-cp", System.getProperty("java.class.path"), "-d", folder.toString(),
                file.toString());
        Due.is("javac of what README.md shows", failed, 0);
        PrintStream usual = System.out;
        ByteArrayOutputStream caught = new ByteArrayOutputStream();
        try (URLClassLoader loader = new URLClassLoader(new URL[] {folder.toUri().toURL()})) {
            System.setOut(new PrintStream(caught, true));
            loader.loadClass(name).getMethod("main", String[].class).invoke(null, (Object) new String[0]);
        } finally {
            System.setOut(usual);
            Files.deleteIfExists(folder.resolve(name + ".class"));
            Files.deleteIfExists(file);
            Files.deleteIfExists(folder);
        }
        return caught.toString().replace(System.lineSeparator(), "\n");
    }
}
