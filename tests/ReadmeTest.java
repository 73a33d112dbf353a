import java.io.IOException;
import java.nio.file.Files;
import java.nio.file.Path;
import java.util.Arrays;
import java.util.TreeSet;
import java.util.regex.Matcher;
import java.util.regex.Pattern;

/** The example of README.md answers what it says there, and README.md names every call. */
public final class ReadmeTest {
    private static final Due DUE = new Due();
    private static final Pattern CALL = Pattern.compile("    book\\.(\\w+)\\(([-0-9, ]*)\\); +// (-?[0-9]+)(:.*)?");

    public static void main(String[] args) throws ReflectiveOperationException, IOException {
        String readme = Files.readString(Path.of("README.md"));
        SnagBook book = new SnagBook();
        int calls = 0;
        for (String line : readme.split("\n")) {
            if (line.startsWith("    book.")) {
                Matcher m = CALL.matcher(line);
                DUE.is("is a call with its answer: " + line, m.matches() ? 1 : 0, 1);
                if (m.matches()) {
                    DUE.is(line.trim(), call(book, m.group(1), m.group(2)), Integer.parseInt(m.group(3)));
                    calls++;
                }
            }
        }
        DUE.is("README.md has an example", calls > 20 ? 1 : 0, 1);
        for (String name : face()) {
            DUE.is("README.md names " + name, readme.contains("`" + name + "`") ? 1 : 0, 1);
        }
        DUE.end("ReadmeTest");
    }

    private static int call(SnagBook book, String name, String numbers) throws ReflectiveOperationException {
        Integer[] arguments = Arrays.stream(numbers.split(", ")).map(Integer::valueOf).toArray(Integer[]::new);
        Class<?>[] types = new Class<?>[arguments.length];
        Arrays.fill(types, int.class);
        return (Integer) SnagBook.class.getMethod(name, types).invoke(book, (Object[]) arguments);
    }

    private static TreeSet<String> face() {
        TreeSet<String> names = new TreeSet<>();
        Arrays.stream(SnagBook.class.getDeclaredMethods()).filter(m -> (m.getModifiers() & 1) == 1)
            .forEach(m -> names.add(m.getName()));
        return names;
    }
}
