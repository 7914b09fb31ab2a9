import java.io.File;
import java.io.IOException;
import java.lang.reflect.Method;
import java.nio.file.Files;
import java.nio.file.Path;
import java.util.Set;
import java.util.TreeSet;
import java.util.regex.Matcher;
import java.util.regex.Pattern;

/** README.md tells all calls, terms and refusals in the document's words, and its example answers as it says. */
public final class ReadmeTest {
    private static final Path README = Path.of("README.md"), DOCUMENT = Path.of("../shared/DOC.md");
    private static final Pattern PROMISE = Pattern.compile("(?m)^(`[^`]+\\)`): (.+)$");
    private static final Pattern EXAMPLE = Pattern.compile("(?s)```java\n(.*?)```");
    private static final Pattern TEXT = Pattern.compile("for \\(char sign : \"(.*)\"\\.toCharArray\\(\\)\\) \\{ x\\.letter\\(sign\\); \\}");
    private static final Pattern CALL = Pattern.compile("x\\.(\\w+)\\((.*?)\\); +// ([-\\w]+): .+");

    public static void main(String[] args) throws IOException {
        String readme = Files.readString(README);
        String document = Files.readString(DOCUMENT);
        promises(squeezed(readme), document);
        terms(squeezed(readme), document);
        constants(squeezed(readme));
        example(readme);
        testsTold(readme);
        Due.end();
    }

    /** One line, without the signs of tables and lists: only the words are held against the document. */
    private static String squeezed(String page) {
        return page.replaceAll("(?m)^- ", " ").replaceAll("[|\\s]+", " ");
    }

    private static void promises(String readme, String document) {
        Matcher promise = PROMISE.matcher(document);
        int found = 0;
        while (promise.find()) {
            found++;
            String between = promise.group(1).equals("`TinSoldiers()`") ? ": " : " ";
            String words = promise.group(1) + between + promise.group(2);
            Due.holds("README.md says: " + words, readme.contains(words));
        }
        Due.is("promises of the document", 25, found);
    }

    private static void terms(String readme, String document) {
        int from = document.indexOf("A CARPET is a text");
        int to = document.indexOf("Ahead of the calls");
        Due.holds("the document has its terms", from >= 0 && to > from);
        if (from < 0 || to <= from) {
            return;
        }
        String told = document.substring(from, document.indexOf("between:", from)) + "between: "
            + document.substring(document.indexOf("\".\" an open CELL"), to);
        String words = told.replaceAll("```(text)?|={8} \\d", " ").replaceAll("\\s+", " ").trim();
        for (String sentence : words.split("(?<=\\.) (?=[A-Z])")) {
            Due.holds("README.md says, as often as the document: " + sentence,
                timesIn(readme, sentence) >= timesIn(words, sentence));
        }
    }

    private static int timesIn(String page, String sentence) {
        int times = 0;
        for (int at = page.indexOf(sentence); at >= 0; at = page.indexOf(sentence, at + 1)) {
            times++;
        }
        return times;
    }

    private static void constants(String readme) {
        String[] names = {"NONE", "UNKNOWN", "OUTSIDE", "STATE", "FULL"};
        for (String name : names) {
            Due.holds("README.md tells the number of " + name, readme.contains("`" + name + "` " + answer(name) + " "));
        }
    }

    private static long answer(String told) {
        switch (told) {
            case "NONE":
                return TinSoldiers.NONE;
            case "UNKNOWN":
                return TinSoldiers.UNKNOWN;
            case "OUTSIDE":
                return TinSoldiers.OUTSIDE;
            case "STATE":
                return TinSoldiers.STATE;
            case "FULL":
                return TinSoldiers.FULL;
            default:
                return Long.parseLong(told);
        }
    }

    private static void example(String readme) {
        Matcher block = EXAMPLE.matcher(readme);
        Due.holds("README.md has an example", block.find());
        TinSoldiers x = new TinSoldiers();
        String[] lines = block.group(1).split("\n");
        Due.holds("the example makes an object first", lines[0].equals("TinSoldiers x = new TinSoldiers();"));
        for (int line = 1; line < lines.length; line++) {
            Matcher text = TEXT.matcher(lines[line]);
            Matcher call = CALL.matcher(lines[line]);
            if (text.matches()) {
                Due.write(x, text.group(1));
            } else if (call.matches()) {
                String told = call.group(1) + "(" + call.group(2) + ")";
                Due.is("README.md: " + told, answer(call.group(3)), answered(x, call.group(1), call.group(2)));
            } else {
                Due.holds("a line of the example can be played: " + lines[line], false);
            }
        }
    }

    private static long answered(TinSoldiers x, String name, String told) {
        String[] words = told.isEmpty() ? new String[0] : told.split(", ");
        Object[] values = new Object[words.length];
        for (int i = 0; i < words.length; i++) {
            boolean truth = words[i].equals("true") || words[i].equals("false");
            values[i] = truth ? (Object) Boolean.valueOf(words[i]) : (Object) Integer.valueOf(words[i]);
        }
        for (Method method : TinSoldiers.class.getMethods()) {
            if (method.getName().equals(name) && method.getParameterCount() == values.length) {
                try {
                    return ((Number) method.invoke(x, values)).longValue();
                } catch (ReflectiveOperationException thrown) {
                    Due.holds(name + "(" + told + ") throws nothing: " + thrown, false);
                }
            }
        }
        return Long.MIN_VALUE;
    }

    private static void testsTold(String readme) {
        Set<String> there = new TreeSet<>();
        File[] files = new File("src/test/java").listFiles();
        for (File file : files == null ? new File[0] : files) {
            if (file.getName().endsWith("Test.java")) {
                there.add(file.getName().replace(".java", ""));
            }
        }
        Set<String> told = new TreeSet<>();
        Matcher row = Pattern.compile("(?m)^\\| `(\\w+Test)` \\|").matcher(readme);
        while (row.find()) {
            told.add(row.group(1));
        }
        Due.holds("README.md tells the tests that are there: " + there + ", told are " + told, there.equals(told));
    }
}
