import java.io.IOException;
import java.lang.reflect.Method;
import java.lang.reflect.Modifier;
import java.nio.file.Files;
import java.nio.file.Path;
import java.util.Set;
import java.util.TreeSet;
import java.util.regex.Matcher;
import java.util.regex.Pattern;

/** The calls that README.md shows, in their order on one object, answer what stands behind them. */
public final class ReadmeTest extends Expect {
    private static final Pattern CALL = Pattern.compile("x\\.(\\w+)\\(([^)]*)\\); +// ([^:]+): .+");

    public static void main(String[] args) throws IOException, ReflectiveOperationException {
        ReportCauses x = new ReportCauses();
        Set<String> shown = new TreeSet<>();
        for (String line : Files.readAllLines(Path.of("README.md"))) {
            Matcher call = CALL.matcher(line);
            if (call.matches()) {
                shown.add(call.group(1));
                due(line, answer(x, call.group(1), call.group(2)), call.group(3));
            } else {
                due("a call without its answer: " + line, line.startsWith("x."), false);
            }
        }
        for (Method m : ReportCauses.class.getDeclaredMethods()) {
            if (Modifier.isPublic(m.getModifiers())) {
                due(m.getName() + " is shown", shown.contains(m.getName()), true);
            }
        }
        end();
    }

    private static String answer(ReportCauses x, String name, String arguments)
            throws ReflectiveOperationException {
        String[] texts = arguments.isEmpty() ? new String[0] : arguments.split(", ");
        for (Method m : ReportCauses.class.getMethods()) {
            if (m.getName().equals(name) && m.getParameterCount() == texts.length) {
                return named(String.valueOf(m.invoke(x, read(texts))));
            }
        }
        return "no such call";
    }

    private static Object[] read(String[] texts) {
        Object[] values = new Object[texts.length];
        for (int i = 0; i < texts.length; i++) {
            boolean isTruth = texts[i].equals("true") || texts[i].equals("false");
            values[i] = isTruth ? Boolean.valueOf(texts[i]) : Integer.valueOf(texts[i]);
        }
        return values;
    }

    private static String named(String answer) {
        return answer.equals("" + BAD) ? "BAD" : answer.equals("" + NO) ? "NO"
            : answer.equals("" + FULL) ? "FULL" : answer;
    }
}
