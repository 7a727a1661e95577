import java.nio.file.Files;
import java.nio.file.Path;
import java.util.regex.Matcher;
import java.util.regex.Pattern;

/** README.md keeps its word: its example answers as it says, and it names each call. */
public final class ReadmeTest {
    private static final Pattern FED = Pattern.compile("feed\\(x, \"([^\"]*)\"\\);");
    private static final Pattern CALL = Pattern.compile("x\\.(\\w+)\\(([^)]*)\\);\\s+// ([^:]+):.*");

    private ReadmeTest() {
    }

    public static void main(String[] args) throws Exception {
        String readme = Files.readString(Path.of("README.md"));
        String[] parts = readme.split("```(java\n)?");
        Check.due("two pieces of code in README.md", parts.length, 5);
        if (parts.length == 5) {
            String here = Files.readString(Path.of("src/test/java/ReadmeTest.java"));
            Check.due("README.md's feed is the one below", plain(here).contains(plain(parts[1])), true);
            example(parts[3].split("\n"));
        }
        for (String name : Calls.NAMES) {
            Check.due("README.md names " + name, readme.contains("`" + name + "`"), true);
        }
        Check.end();
    }

    private static String plain(String text) {
        return text.replaceAll("\\s+", " ").trim();
    }

    private static void example(String[] lines) {
        NutmegSeats x = null;
        int answers = 0;
        for (String line : lines) {
            Matcher fed = FED.matcher(line);
            Matcher call = CALL.matcher(line);
            if (line.equals("NutmegSeats x = new NutmegSeats();")) {
                x = new NutmegSeats();
            } else if (fed.matches()) {
                feed(x, fed.group(1));
            } else if (call.matches()) {
                Check.due(line, Calls.answer(x, call.group(1), numbers(call.group(2))), number(call.group(3)));
                answers++;
            } else {
                Check.due("a line that can be tried: " + line, false, true);
            }
        }
        Check.due("the example has answers", answers > 0, true);
    }

    private static int[] numbers(String text) {
        if (text.isEmpty()) {
            return new int[0];
        }
        String[] words = text.split(", ");
        int[] numbers = new int[words.length];
        for (int i = 0; i < words.length; i++) {
            numbers[i] = number(words[i]);
        }
        return numbers;
    }

    private static int number(String word) {
        switch (word) {
            case "true":
                return 1;
            case "false":
                return 0;
            case "NutmegSeats.NONE":
                return NutmegSeats.NONE;
            default:
                return Integer.parseInt(word);
        }
    }

    static void feed(NutmegSeats x, String text) {
        for (int from = 0; from < text.length(); from += 24) {
            long[] three = new long[3];
            for (int i = 0; i < 24 && from + i < text.length(); i++) {
                three[i / 8] |= (long) text.charAt(from + i) << 56 - i % 8 * 8;
            }
            x.feed(three[0], three[1], three[2]);
        }
    }
}
