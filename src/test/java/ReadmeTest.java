import java.io.File;
import java.io.IOException;
import java.lang.reflect.Method;
import java.lang.reflect.Modifier;
import java.net.URL;
import java.net.URLClassLoader;
import java.nio.file.Files;
import java.nio.file.Path;
import java.util.ArrayList;
import java.util.List;
import java.util.regex.Matcher;
import java.util.regex.Pattern;
import javax.tools.ToolProvider;

/** README.md holds: its examples answer what their comments say, and the methods and test files that it names are there. */
public final class ReadmeTest {
    private static final Path README = Path.of("README.md");
    private static final Path TESTS = Path.of("src/test/java");
    private static final Pattern BLOCK = Pattern.compile("```java\n(.*?)```", Pattern.DOTALL);
    private static final Pattern ASKING = Pattern.compile("((\\w+)\\.(\\w+)\\(.*\\)); +// ([-\\w]+)(.*)");
    private static final Pattern TEST_NAME = Pattern.compile("`(\\w+?)(NN\\.\\.\\.)?(Test)?\\.java`");
    private static final Pattern BY_HAND = Pattern.compile("java -cp \\S+ (\\w+)");

    private static final Check CHECK = new Check();

    public static void main(String[] args) throws IOException, ReflectiveOperationException {
        String text = Files.readString(README);
        int blocks = 0;
        Matcher block = BLOCK.matcher(text);
        while (block.find()) {
            blocks++;
            example("ReadmeExample" + blocks, block.group(1));
        }
        CHECK.due("there are examples", blocks > 0, true);
        everyMethodIsTold(text);
        testFiles(text);
        CHECK.end();
    }

    // The comment of an instruction that is taken begins with its address, that of any other call with its answer.
    private static void example(String name, String block) throws IOException, ReflectiveOperationException {
        StringBuilder code = new StringBuilder();
        List<String> asked = new ArrayList<>();
        List<Object> want = new ArrayList<>();
        for (String line : block.split("\n")) {
            Matcher asking = ASKING.matcher(line);
            if (!asking.matches()) {
                code.append(line).append('\n');
                continue;
            }
            if (asking.group(3).equals("emit") && asking.group(5).startsWith(":") && asking.group(4).matches("\\d+")) {
                code.append("answers.add(").append(asking.group(2)).append(".getCodeLength());\n");
                asked.add("the address of " + line);
                want.add(Integer.valueOf(asking.group(4)));
                want.add(true);
            } else {
                want.add(meant(asking.group(4)));
            }
            code.append("answers.add(").append(asking.group(1)).append(");\n");
            asked.add(line);
        }
        List<?> got = run(name, code.toString());
        for (int i = 0; i < want.size(); i++) {
            CHECK.due("README: " + asked.get(i) + " -- now " + got.get(i), got.get(i).equals(want.get(i)), true);
        }
        CHECK.due("README: " + name + " asks something", want.size() > 0, true);
    }

    private static Object meant(String word) throws ReflectiveOperationException {
        if (word.equals("true") || word.equals("false")) {
            return Boolean.valueOf(word);
        }
        return word.matches("-?\\d+") ? Integer.valueOf(word) : StackfulCoro.class.getField(word).get(null);
    }

    private static List<?> run(String name, String code) throws IOException, ReflectiveOperationException {
        Path folder = Files.createTempDirectory("readme");
        Path source = folder.resolve(name + ".java");
        Path compiled = folder.resolve(name + ".class");
        Files.writeString(source, "public class " + name + " {\npublic static java.util.List<Object> answers() {\n"
                + "java.util.List<Object> answers = new java.util.ArrayList<>();\n" + code + "return answers;\n}\n}\n");
        String classes = System.getProperty("java.class.path");
        int exit = ToolProvider.getSystemJavaCompiler().run(null, null, null, "-cp", classes, "-d", folder.toString(), source.toString());
        CHECK.due("README: " + name + " compiles", exit, 0);
        try (URLClassLoader loader = new URLClassLoader(new URL[] {folder.toUri().toURL()})) {
            return (List<?>) loader.loadClass(name).getMethod("answers").invoke(null);
        } finally {
            Files.deleteIfExists(source);
            Files.deleteIfExists(compiled);
            Files.deleteIfExists(folder);
        }
    }

    private static void everyMethodIsTold(String text) {
        for (Method m : StackfulCoro.class.getDeclaredMethods()) {
            if (Modifier.isPublic(m.getModifiers())) {
                CHECK.due("README tells " + m.getName(), text.contains("`" + m.getName() + "("), true);
            }
        }
    }

    private static void testFiles(String text) {
        List<String> named = new ArrayList<>();
        Matcher name = TEST_NAME.matcher(text);
        while (name.find()) {
            String number = name.group(2) == null ? "" : "\\d\\d\\w+";
            named.add(name.group(1) + number + (name.group(3) == null ? "" : "Test") + "\\.java");
        }
        boolean[] found = new boolean[named.size()];
        for (File file : TESTS.toFile().listFiles((folder, file) -> file.endsWith(".java"))) {
            boolean told = false;
            for (int i = 0; i < found.length; i++) {
                boolean same = file.getName().matches(named.get(i));
                found[i] |= same;
                told |= same;
            }
            CHECK.due("README tells what " + file.getName() + " is for", told, true);
        }
        Matcher byHand = BY_HAND.matcher(text);
        CHECK.due("README runs a test by hand", byHand.find() && Files.exists(TESTS.resolve(byHand.group(1) + ".java")), true);
        for (int i = 0; i < found.length; i++) {
            CHECK.due("README names files that are there: " + named.get(i), found[i], true);
        }
    }
}
