import java.lang.reflect.Method;
import java.nio.file.Files;
import java.nio.file.Path;
import java.util.Set;
import java.util.TreeSet;
import java.util.regex.Matcher;
import java.util.regex.Pattern;

/** Does what README.md's example does, line by line, so that the page can't tell another answer than the class. */
public final class ReadmeTest {
    private static final Pattern CALL = Pattern.compile("x\\.(\\w+)\\((.*)\\); *// (-?\\w+):.*");
    private static final Pattern SIGNS =
        Pattern.compile("for \\(char sign : \"(.*)\"\\.toCharArray\\(\\)\\) x\\.letter\\(sign\\);");
    private static final String MAKING = "ReadBackwards x = new ReadBackwards();";

    private static final Due due = new Due();
    private static final Set<String> shown = new TreeSet<>();

    public static void main(String[] args) throws Exception {
        ReadBackwards x = new ReadBackwards();
        for (String line : example()) {
            if (!line.isEmpty() && !line.startsWith("//") && !line.equals(MAKING)) doLine(x, line);
        }
        for (Method m : ReadBackwards.class.getMethods()) {
            if (m.getDeclaringClass() != ReadBackwards.class) continue;
            due.is("README.md shows " + m.getName(), shown.contains(m.getName()) ? 1 : 0, 1);
        }
        due.end();
    }

    private static String[] example() throws Exception {
        String page = Files.readString(Path.of("README.md"));
        int from = page.indexOf("```java\n");
        int to = page.indexOf("```\n", from + 1);
        if (from < 0 || to < 0) throw new IllegalStateException("README.md has no example");
        return page.substring(from + "```java\n".length(), to).split("\n");
    }

    private static void doLine(ReadBackwards x, String line) throws Exception {
        Matcher signs = SIGNS.matcher(line);
        Matcher call = CALL.matcher(line);
        if (signs.matches()) {
            shown.add("letter");
            Due.page(x, signs.group(1));
        } else if (call.matches()) {
            shown.add(call.group(1));
            due.is(line, answer(x, call.group(1), call.group(2)), number(call.group(3)));
        } else {
            due.is("a line that is no call with its answer: " + line, 1, 0);
        }
    }

    private static long answer(ReadBackwards x, String name, String given) throws Exception {
        String[] texts = given.isEmpty() ? new String[0] : given.split(", ");
        for (Method m : ReadBackwards.class.getMethods()) {
            if (!m.getName().equals(name) || m.getParameterCount() != texts.length) continue;
            Object[] values = new Object[texts.length];
            for (int i = 0; i < texts.length; i++) {
                boolean truth = m.getParameterTypes()[i] == boolean.class;
                values[i] = truth ? (Object) Boolean.valueOf(texts[i]) : (Object) Integer.valueOf(texts[i]);
            }
            return ((Number) m.invoke(x, values)).longValue();
        }
        throw new IllegalStateException("the class has no " + name + "(" + given + ")");
    }

    private static long number(String text) throws Exception {
        boolean named = Character.isLetter(text.charAt(0));
        return named ? ReadBackwards.class.getField(text).getInt(null) : Long.parseLong(text);
    }
}
