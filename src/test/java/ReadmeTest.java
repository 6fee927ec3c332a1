import java.lang.reflect.Method;
import java.lang.reflect.Modifier;
import java.nio.charset.StandardCharsets;
import java.nio.file.Files;
import java.nio.file.Path;
import java.util.regex.Matcher;
import java.util.regex.Pattern;
import java.util.stream.Stream;

/** README.md tells how to use the class: its example answers what it says, and it names every call and every test. */
public final class ReadmeTest {
    public static void main(String[] args) throws Exception {
        String page = Files.readString(Path.of("README.md"));
        example(block(page, "java"));
        calls(page);
        tests(page);
        Check.end();
    }

    private static String block(String page, String language) {
        int from = page.indexOf("```" + language + "\n");
        int to = page.indexOf("\n```\n", from);
        return from < 0 || to < 0 ? "" : page.substring(from, to);
    }

    private static void example(String code) throws Exception {
        GargoyleClose x = new GargoyleClose();
        Matcher text = Pattern.compile("// \"(.*)\"").matcher(code);
        int[] words = Check.words(text.find() ? text.group(1) : "");
        Matcher lines = Pattern.compile("x\\.(\\w+)\\((.*?)\\);(?: +// (\\S+))?").matcher(code);
        int fed = 0;
        while (lines.find()) {
            int[] numbers = lines.group(2).isEmpty() ? new int[0]
                : Stream.of(lines.group(2).split(", ")).mapToInt(Integer::parseInt).toArray();
            Object got = call(x, lines.group(1), numbers);
            if (lines.group(1).equals("feed")) {
                for (int number : numbers) {
                    Check.due("the " + fed + "-th number of the text", number, words[fed]);
                    fed++;
                }
            } else {
                Check.same(lines.group(), String.valueOf(got), lines.group(3));
            }
        }
        Check.due("numbers of the text", fed, words.length);
        Check.due("bytes of the text", text.group(1).getBytes(StandardCharsets.ISO_8859_1).length, 80);
    }

    private static Object call(GargoyleClose x, String name, int[] numbers) throws Exception {
        Class<?>[] types = new Class<?>[numbers.length];
        Object[] values = new Object[numbers.length];
        for (int i = 0; i < numbers.length; i++) {
            types[i] = int.class;
            values[i] = numbers[i];
        }
        return GargoyleClose.class.getMethod(name, types).invoke(x, values);
    }

    private static void calls(String page) {
        for (Method m : GargoyleClose.class.getDeclaredMethods()) {
            if (Modifier.isPublic(m.getModifiers())) {
                Check.due("README.md names " + m.getName(), page.contains("`" + m.getName() + "`"), true);
            }
        }
    }

    private static void tests(String page) throws Exception {
        try (Stream<Path> files = Files.list(Path.of("src/test/java"))) {
            for (Path file : files.toList()) {
                String name = file.getFileName().toString().replace(".java", "");
                Check.due("README.md names " + name, page.contains(name), true);
            }
        }
    }
}
