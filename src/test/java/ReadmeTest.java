import java.io.IOException;
import java.lang.reflect.Method;
import java.nio.file.Files;
import java.nio.file.Path;
import java.util.List;
import java.util.regex.Matcher;
import java.util.regex.Pattern;

/** The examples of README.md, line by line: each answers what stands behind it. */
public final class ReadmeTest {
    private static final Pattern CALL = Pattern.compile("forge\\.(\\w+)\\(([^)]*)\\); *// (-?\\d+).*");
    private static final Pattern PUT = Pattern.compile("put\\(forge, \"([^\"]*)\"\\); *// (-?\\d+).*");
    /** Where, in the text that README.md shows, the words on the right begin. */
    private static final int SAID_FROM = 56;
    private static final String PUT_HEAD = "static int put(HandshakeForge forge, String text) {";

    private final Harness h = new Harness("ReadmeTest");

    public static void main(String[] args) throws IOException, ReflectiveOperationException {
        ReadmeTest test = new ReadmeTest();
        List<String> lines = Files.readAllLines(Path.of("README.md"));
        int calls = 0;
        for (String line : lines) {
            if (line.startsWith("forge.") || line.startsWith("put(")) {
                test.example(line);
                calls++;
            }
        }
        test.h.due("the example has calls", calls > 20 ? 1 : 0, 1);
        test.samePut(lines);
        test.text(lines);
        for (Method method : HandshakeForge.class.getMethods()) {
            if (method.getDeclaringClass() == HandshakeForge.class) {
                test.told(lines, method.getName());
            }
        }
        test.h.close();
    }

    private void example(String line) throws ReflectiveOperationException {
        Matcher call = CALL.matcher(line);
        Matcher put = PUT.matcher(line);
        if (call.matches()) {
            h.due(line, call(call.group(1), call.group(2)), Long.parseLong(call.group(3)));
        } else if (put.matches()) {
            h.due(line, put(h.forge, put.group(1)), Long.parseLong(put.group(2)));
        } else {
            h.due("an answer behind '" + line + "'", 0, 1);
        }
    }

    private long call(String name, String written) throws ReflectiveOperationException {
        String[] numbers = written.isEmpty() ? new String[0] : written.split(", *");
        Object[] arguments = new Object[numbers.length];
        Class<?>[] types = new Class<?>[numbers.length];
        for (int i = 0; i < numbers.length; i++) {
            arguments[i] = Integer.decode(numbers[i]);
            types[i] = int.class;
        }
        return ((Number) HandshakeForge.class.getMethod(name, types).invoke(h.forge, arguments)).longValue();
    }

    /** The text that shows all kinds of statements, without what is said of them on the right. */
    private void text(List<String> lines) {
        StringBuilder text = new StringBuilder();
        for (int i = lines.indexOf("```text") + 1; i < lines.size() && !lines.get(i).equals("```"); i++) {
            String line = lines.get(i);
            text.append(line.length() > SAID_FROM ? line.substring(0, SAID_FROM) : line).append('\n');
        }
        h.due("README.md has a text", text.indexOf("par {") > 0 ? 1 : 0, 1);
        h.good(text.toString());
        h.due("give", h.forge.give(0, 1), 1);
        h.due("run", h.forge.run(20000), 2);
        h.due("take", h.forge.take(0), 6);
    }

    /** The put that is tried here is the one that is told there. */
    private void samePut(List<String> lines) throws IOException {
        List<String> here = Files.readAllLines(Path.of("src/test/java/ReadmeTest.java"));
        int there = lines.indexOf(PUT_HEAD);
        h.due("README.md has put", there >= 0 ? 1 : 0, 1);
        for (int i = there; i >= 0 && i < lines.size() && !lines.get(i).startsWith("```"); i++) {
            h.due("put has the line '" + lines.get(i) + "'", here.contains("    " + lines.get(i)) ? 1 : 0, 1);
        }
    }

    /** As README.md has it. */
    static int put(HandshakeForge forge, String text) {
        int[] fours = new int[5];
        for (int i = 0; i < text.length(); i += 20) {
            java.util.Arrays.fill(fours, 0);
            for (int k = i; k < i + 20 && k < text.length(); k++) {
                fours[(k - i) / 4] |= text.charAt(k) << 24 - (k - i) % 4 * 8;
            }
            forge.feed(fours[0], fours[1], fours[2], fours[3], fours[4]);
        }
        return forge.end(text.length());
    }

    /** Each call of the face has a row in the table and stands in an example. */
    private void told(List<String> lines, String name) {
        boolean row = false;
        boolean example = false;
        for (String line : lines) {
            row |= line.startsWith("| `" + name + "(");
            example |= line.startsWith("forge." + name + "(");
        }
        h.due("README.md tells of " + name, row && example ? 1 : 0, 1);
    }
}
