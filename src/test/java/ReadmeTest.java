import java.io.IOException;
import java.nio.file.Files;
import java.nio.file.Path;
import java.util.regex.Matcher;
import java.util.regex.Pattern;

/** The calls that README.md shows, in their order on one new object: each answers what stands behind it. */
public final class ReadmeTest {
    private static final Pattern SHOWN = Pattern.compile("(?m)^fridge\\.(\\w+)\\((.*?)\\); *// (-?\\d+): ");
    private static final int LEAST_SHOWN = 20;

    private static final Due D = new Due("ReadmeTest");

    public static void main(String[] args) throws IOException {
        String readme = Files.readString(Path.of("README.md"));
        ElevenYoghurts fridge = new ElevenYoghurts();
        Matcher shown = SHOWN.matcher(readme);
        int calls = 0;
        while (shown.find()) {
            calls++;
            String call = shown.group(1) + "(" + shown.group(2) + ")";
            D.due(call, Calls.answer(fridge, shown.group(1), numbers(shown.group(2))), Long.parseLong(shown.group(3)));
        }
        D.due("calls are shown", calls >= LEAST_SHOWN ? 1 : 0, 1);
        D.due("all that is shown is asked", calls, Pattern.compile("(?m)^fridge\\.").matcher(readme).results().count());
        everyTestIsTold(readme);
        D.finish();
    }

    private static Object[] numbers(String inside) {
        if (inside.isBlank()) return new Object[0];
        String[] words = inside.split(",");
        Object[] numbers = new Object[words.length];
        for (int i = 0; i < words.length; i++) numbers[i] = Long.decode(words[i].trim().replaceAll("L$", ""));
        return numbers;
    }

    private static void everyTestIsTold(String readme) throws IOException {
        try (var files = Files.newDirectoryStream(Path.of("src/test/java"), "*Test.java")) {
            for (Path file : files) {
                String name = file.getFileName().toString().replace(".java", "");
                D.due("README.md tells of " + name, readme.contains("| `" + name + "` |") ? 1 : 0, 1);
            }
        }
    }
}
