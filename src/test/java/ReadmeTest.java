import java.io.File;
import java.io.IOException;
import java.lang.reflect.Field;
import java.lang.reflect.Method;
import java.lang.reflect.Modifier;
import java.nio.file.Files;
import java.nio.file.Path;
import java.util.Arrays;
import java.util.Comparator;
import java.util.List;
import java.util.regex.Matcher;
import java.util.regex.Pattern;
import java.util.stream.Collectors;
import java.util.stream.Stream;

/** README.md holds: its program prints what it says, and its tables name the whole face. */
public final class ReadmeTest {
    private static final Due DUE = new Due();
    private static final String MAIN = "src/main/java/SpeculativeScheduler.java";

    public static void main(String[] args) throws Exception {
        String readme = Files.readString(Path.of("README.md"));
        demoPrintsWhatItSays(readme);
        callsAreNamed(readme);
        constantsHaveTheirValues(readme);
        testsAreNamed(readme);
        DUE.end();
    }

    /** The program and the commands are taken as they stand; only the folders are others. */
    private static void demoPrintsWhatItSays(String readme) throws Exception {
        DUE.at("README, a first program");
        Path folder = Files.createTempDirectory("readme");
        try {
            Files.createDirectories(folder.resolve(MAIN).getParent());
            Files.copy(Path.of(MAIN), folder.resolve(MAIN));
            Files.writeString(folder.resolve("Demo.java"), block(readme, "java"));
            String commands = block(readme, "sh").replace("/tmp/demo", "demo");
            DUE.same("Demo", output(folder.toFile(), commands), block(readme, "text"));
        } finally {
            remove(folder);
        }
    }

    /** The first block of the language. */
    private static String block(String readme, String language) {
        Matcher m = Pattern.compile("```" + language + "\n(.*?)```", Pattern.DOTALL).matcher(readme);
        return m.find() ? m.group(1) : "there is no block of " + language;
    }

    private static String output(File folder, String commands) throws Exception {
        Process process = new ProcessBuilder("sh", "-e", "-c", commands)
                .directory(folder).redirectErrorStream(true).start();
        String printed = new String(process.getInputStream().readAllBytes());
        DUE.is("exit code", process.waitFor(), 0);
        return printed;
    }

    private static void remove(Path folder) throws IOException {
        try (Stream<Path> all = Files.walk(folder)) {
            List<Path> deepestFirst = all.sorted(Comparator.reverseOrder()).collect(Collectors.toList());
            for (Path path : deepestFirst) Files.delete(path);
        }
    }

    private static void callsAreNamed(String readme) {
        DUE.at("README, the calls");
        int rows = count(readme, "(?m)^\\| `\\w+\\([^)`]*\\)` \\|");
        int methods = 0;
        for (Method method : SpeculativeScheduler.class.getDeclaredMethods()) {
            if (!Modifier.isPublic(method.getModifiers())) continue;
            methods++;
            String row = "(?m)^\\| `" + method.getName() + "\\(" + parameters(method) + "\\)` \\|";
            DUE.is("rows of " + method.getName(), count(readme, row), 1);
        }
        DUE.is("rows", rows, methods);
    }

    private static String parameters(Method method) {
        String[] names = new String[method.getParameterCount()];
        Arrays.fill(names, "\\w+");
        return String.join(", ", names);
    }

    private static void constantsHaveTheirValues(String readme) throws IllegalAccessException {
        DUE.at("README, the constants");
        int rows = count(readme, "(?m)^\\| `[A-Z_]+` \\| -?\\d+ \\|");
        int constants = 0;
        for (Field field : SpeculativeScheduler.class.getDeclaredFields()) {
            if (!Modifier.isPublic(field.getModifiers())) continue;
            constants++;
            String row = "(?m)^\\| `" + field.getName() + "` \\| " + field.getInt(null) + " \\|";
            DUE.is("rows of " + field.getName(), count(readme, row), 1);
        }
        DUE.is("rows", rows, constants);
    }

    private static void testsAreNamed(String readme) {
        DUE.at("README, the tests");
        String[] files = new File("src/test/java").list();
        DUE.is("the folder of the tests is there", files == null ? 0 : 1, 1);
        if (files == null) return;
        for (String file : files) {
            String name = file.replace(".java", "");
            DUE.is(name + " is named", readme.contains("`" + name + "`") ? 1 : 0, 1);
        }
    }

    private static int count(String text, String pattern) {
        Matcher m = Pattern.compile(pattern).matcher(text);
        int found = 0;
        while (m.find()) found++;
        return found;
    }
}
