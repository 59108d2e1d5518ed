import java.io.IOException;
import java.nio.file.Files;
import java.nio.file.Path;
import java.util.regex.Matcher;
import java.util.regex.Pattern;

/** README's example: each call that it tells an answer of is made, in its order, and must answer so. */
public final class ReadmeTest {
    private static final Pattern TEXT = Pattern.compile("\"([^\"]+)\"\\.toCharArray");
    private static final Pattern CALL = Pattern.compile("doves\\.(\\w+)\\((.*?)\\);\\s+// (-?\\d+): .*");

    public static void main(String[] args) throws IOException, ReflectiveOperationException {
        VowDoves doves = new VowDoves();
        int calls = 0;
        for (String line : Files.readAllLines(Path.of("README.md"))) {
            Matcher text = TEXT.matcher(line);
            Matcher call = CALL.matcher(line);
            if (text.find()) {
                Due.write(doves, text.group(1));
            } else if (call.matches()) {
                calls++;
                Due.due(line, answer(doves, call.group(1), call.group(2)), Long.parseLong(call.group(3)));
            } else {
                Due.due("its answer can be read: " + line, line.startsWith("doves.") ? 1 : 0, 0);
            }
        }
        Due.due("there are some calls", calls > 5 ? 1 : 0, 1);
        Due.end();
    }

    private static long answer(VowDoves doves, String name, String list) throws ReflectiveOperationException {
        String[] texts = list.isEmpty() ? new String[0] : list.split(", ");
        Class<?>[] types = new Class<?>[texts.length];
        Object[] values = new Object[texts.length];
        for (int i = 0; i < texts.length; i++) {
            boolean isFlag = texts[i].equals("true") || texts[i].equals("false");
            types[i] = isFlag ? boolean.class : int.class;
            values[i] = isFlag ? (Object) Boolean.valueOf(texts[i]) : (Object) Integer.valueOf(texts[i]);
        }
        return ((Number) VowDoves.class.getMethod(name, types).invoke(doves, values)).longValue();
    }
}
