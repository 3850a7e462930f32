import java.io.IOException;
import java.nio.file.Files;
import java.nio.file.Path;
import java.util.Arrays;
import java.util.Set;
import java.util.TreeSet;
import java.util.regex.Matcher;
import java.util.regex.Pattern;

/** README.md's example answers what it says, and its table names every call of the face. */
public final class ReadmeTest {
    private static final Pattern CALL = Pattern.compile("(?m)^x\\.(\\w+)\\(([^)]*)\\); *// (-?\\d+)");

    public static void main(String[] args) throws IOException {
        String readme = Files.readString(Path.of("README.md"));
        example(readme);
        table(readme);
        Check.end();
    }

    private static int[] numbers(String list) {
        return Arrays.stream(list.split(",")).map(String::trim).filter(n -> !n.isEmpty())
                .mapToInt(n -> Long.decode(n).intValue()).toArray();
    }

    private static void example(String readme) {
        NightSounds x = new NightSounds();
        int calls = 0;
        Matcher call = CALL.matcher(readme);
        while (call.find()) {
            calls++;
            Check.same("README: " + call.group(), Check.answer(x, call.group(1), numbers(call.group(2))), call.group(3));
        }
        Check.due("README: calls that tell their answers", calls, readme.lines().filter(l -> l.startsWith("x.")).count());
        Check.due("README: there are some", Math.min(calls, 1), 1);
    }

    private static void table(String readme) {
        Set<String> named = new TreeSet<>();
        readme.lines().filter(l -> l.startsWith("| ")).forEach(l -> {
            Matcher name = Pattern.compile("`(\\w+)`").matcher(l);
            while (name.find()) {
                named.add(name.group(1));
            }
        });
        Set<String> face = new TreeSet<>();
        for (var method : NightSounds.class.getMethods()) {
            if (method.getDeclaringClass() == NightSounds.class) {
                face.add(method.getName());
            }
        }
        Check.same("README: the calls in its table", named.toString(), face.toString());
    }
}
