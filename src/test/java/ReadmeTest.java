import java.lang.reflect.Method;
import java.nio.file.Files;
import java.nio.file.Path;
import java.util.Arrays;
import java.util.regex.Matcher;
import java.util.regex.Pattern;

/** The run of calls in README.md, each with the answer that stands behind it: it is so when it is run. */
public final class ReadmeTest {
    private static final Pattern CALL = Pattern.compile("x\\.(\\w+)\\(([^)]*)\\);\\s*// (-?\\d+|true|false)\\b.*");
    private static final Pattern TEXT = Pattern.compile("// \"(.*)\":?");
    private static final Checks C = new Checks();

    public static void main(String[] args) throws Exception {
        SwornCounty x = null;
        int calls = 0;
        String text = "";
        boolean inside = false;
        for (String line : Files.readAllLines(Path.of("README.md"))) {
            String s = line.trim();
            if (s.startsWith("```")) {
                inside = s.equals("```java");
            } else if (inside && s.startsWith("SwornCounty x = new SwornCounty();")) {
                x = new SwornCounty();
            } else if (inside && !s.isEmpty()) {
                Matcher told = TEXT.matcher(s);
                Matcher call = CALL.matcher(s);
                if (told.matches()) {
                    text = told.group(1);
                } else if (call.matches() && x != null) {
                    text = call.group(1).equals("feed") ? fedOf(text, call.group(2)) : text;
                    C.due(s, numberOf(call.group(3)), answerOf(x, call.group(1), call.group(2)));
                    calls++;
                } else {
                    C.due("README has a line that is no call with an answer: " + s, true, false);
                }
            }
        }
        C.due("README has a run of calls", true, calls >= 10);
        C.due("README's texts are fed whole: " + text, true, text.isBlank());
        C.close("ReadmeTest");
    }

    /** What is left to be fed of the text that the README tells, its first twenty bytes being those of the call. */
    private static String fedOf(String text, String arguments) {
        StringBuilder bytes = new StringBuilder();
        for (String n : arguments.split(",")) {
            int number = intOf(n.trim());
            for (int shift = 24; shift >= 0; shift -= 8) bytes.append((char) (number >>> shift & 255));
        }
        String due = (text + " ".repeat(20)).substring(0, 20);
        C.due("README feeds " + bytes + ", told is " + due, true, due.contentEquals(bytes));
        return text.length() > 20 ? text.substring(20) : "";
    }

    private static int intOf(String s) {
        return s.equals("SwornCounty.NONE") ? SwornCounty.NONE : s.startsWith("0x") ? Integer.parseUnsignedInt(s.substring(2), 16) : Integer.parseInt(s);
    }

    private static long numberOf(String s) {
        return s.equals("true") ? 1 : s.equals("false") ? 0 : Long.parseLong(s);
    }

    private static long answerOf(SwornCounty x, String name, String arguments) throws Exception {
        String[] with = arguments.split(",");
        Method method = Arrays.stream(SwornCounty.class.getMethods()).filter(m -> m.getName().equals(name)).findFirst().orElseThrow();
        Object[] values = new Object[with.length];
        for (int i = 0; i < with.length; i++) {
            String s = with[i].trim();
            values[i] = s.equals("true") || s.equals("false") ? (Object) s.equals("true") : (Object) intOf(s);
        }
        Object answer = method.invoke(x, values);
        return answer instanceof Boolean b ? b ? 1 : 0 : ((Integer) answer).longValue();
    }
}
