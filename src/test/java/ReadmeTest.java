import java.io.IOException;
import java.nio.file.Files;
import java.nio.file.Path;
import java.util.Arrays;
import java.util.Set;
import java.util.TreeSet;
import java.util.regex.Matcher;
import java.util.regex.Pattern;
import java.util.stream.Collectors;

/** README.md: its example answers what it says there, and it names every call of the class. */
public final class ReadmeTest {
    private static final Pattern LINE = Pattern.compile("(?m)^dryer\\.(\\w+\\([^)]*\\));\\s*//\\s*(?:ColdDryer\\.)?"
        + "(-?\\d+|NONE|STATE|OUTSIDE|UNKNOWN):");

    public static void main(String[] args) throws IOException {
        String readme = Files.readString(Path.of("README.md"));
        Script script = new Script("ReadmeTest");
        script.play("README's example", example(readme));
        script.finish();
        Check check = new Check("ReadmeTest");
        Set<String> calls = Arrays.stream(ColdDryer.class.getMethods())
            .filter(m -> m.getDeclaringClass() == ColdDryer.class)
            .map(m -> "`" + m.getName() + "(").collect(Collectors.toCollection(TreeSet::new));
        check.due("calls of the class", calls.size(), 20);
        for (String call : calls) {
            check.holds("README tells of " + call + ")", readme.contains(call));
        }
        check.finish();
    }

    /** The example's lines as a case: each call of it has its answer behind it. */
    private static String example(String readme) {
        int begin = readme.indexOf("```java\n");
        int end = readme.indexOf("```", begin + 8);
        if (begin < 0 || end < 0) {
            throw new IllegalStateException("README.md has no example");
        }
        String block = readme.substring(begin, end);
        StringBuilder calls = new StringBuilder();
        int found = 0;
        Matcher line = LINE.matcher(block);
        while (line.find()) {
            calls.append(line.group(1)).append(" = ").append(line.group(2)).append('\n');
            found++;
        }
        long written = block.lines().filter(l -> l.startsWith("dryer.")).count();
        if (found == 0 || found != written) {
            throw new IllegalStateException("README.md: " + found + " of " + written + " lines have an answer");
        }
        return calls.toString();
    }
}
