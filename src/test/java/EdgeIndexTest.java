import java.nio.file.Files;
import java.nio.file.Path;
import java.util.Set;
import java.util.TreeSet;
import java.util.regex.Matcher;
import java.util.regex.Pattern;
import java.util.stream.Stream;

/** Each promise of the document has tests of its boundary cases that name it. */
public final class EdgeIndexTest {
    private static final Due DUE = new Due();
    private static final Pattern NAMED = Pattern.compile("EDGE\\.of\\((\\d+), \"");
    private static final Pattern PROMISE = Pattern.compile("(?m)^## Promise (\\d+): ");

    public static void main(String[] args) throws Exception {
        Set<Integer> named = new TreeSet<>();
        try (Stream<Path> files = Files.list(Path.of("src/test/java"))) {
            for (Path file : files.filter(each -> each.getFileName().toString().startsWith("Edge")).toList()) {
                named.addAll(numbers(NAMED, Files.readString(file)));
            }
        }
        Set<Integer> promised = numbers(PROMISE, Files.readString(Path.of("../shared/DOC.md")));
        DUE.is("promises", promised.size(), 43);
        DUE.isText("promises that are named", named.toString(), promised.toString());
        DUE.finish();
    }

    private static Set<Integer> numbers(Pattern pattern, String text) {
        Set<Integer> numbers = new TreeSet<>();
        Matcher matcher = pattern.matcher(text);
        while (matcher.find()) {
            numbers.add(Integer.parseInt(matcher.group(1)));
        }
        return numbers;
    }
}
