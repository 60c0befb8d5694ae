import java.lang.reflect.InvocationTargetException;
import java.lang.reflect.Method;
import java.nio.file.Files;
import java.nio.file.Path;
import java.util.ArrayList;
import java.util.List;
import java.util.Set;
import java.util.TreeSet;
import java.util.regex.Matcher;
import java.util.regex.Pattern;

/** The examples of README.md: each call answers what stands behind it there, and each call of the face is shown. */
public final class ReadmeTest {
    private static final Pattern ANSWERED = Pattern.compile("(.*\\));\\s*//\\s*(throws \\w+|[\\w.-]*\\w).*", Pattern.DOTALL);
    private static final Pattern CALL = Pattern.compile("mill\\.(\\w+)\\((.*)\\)");
    private static final Pattern TOLD = Pattern.compile("Due\\.tell\\(mill, (.*)\\)", Pattern.DOTALL);
    private static final Pattern QUOTED = Pattern.compile("\"([^\"]*)\"");
    private static final Due due = new Due();

    private static final Set<String> shown = new TreeSet<>();
    private static ClapMill mill = null;

    public static void main(String[] args) throws Exception {
        for (String statement : statements(Files.readAllLines(Path.of("README.md")))) {
            run(statement);
        }
        for (Method method : ClapMill.class.getDeclaredMethods()) {
            boolean isShown = shown.contains(method.getName()) || (method.getModifiers() & 1) == 0;
            due.is("README shows " + method.getName(), isShown, true);
        }
        due.end();
    }

    /** What stands between ```java and ```, with lines joined up to the one that ends a statement. */
    private static List<String> statements(List<String> lines) {
        List<String> found = new ArrayList<>();
        boolean isJava = false;
        String begun = "";
        for (String line : lines) {
            if (line.startsWith("```")) {
                isJava = line.equals("```java");
            } else if (isJava) {
                begun = begun.isEmpty() ? line : begun + "\n" + line;
                if (line.endsWith(");") || line.contains("); //")) {
                    found.add(begun);
                    begun = "";
                }
            }
        }
        due.is("nothing is left open: " + begun, begun.isEmpty(), true);
        return found;
    }

    private static void run(String statement) throws Exception {
        if (statement.equals("ClapMill mill = new ClapMill();")) {
            mill = new ClapMill();
            return;
        }
        Matcher answered = ANSWERED.matcher(statement);
        boolean isAnswered = answered.matches();
        due.is("an answer stands behind " + statement, isAnswered, true);
        if (isAnswered) {
            String got = answer(answered.group(1));
            due.is(statement + " (got " + got + ")", got.equals(written(answered.group(2))), true);
        }
    }

    private static String written(String answer) {
        return switch (answer) {
            case "NONE" -> "" + ClapMill.NONE;
            case "Integer.MIN_VALUE" -> "" + Integer.MIN_VALUE;
            case "Long.MIN_VALUE" -> "" + Long.MIN_VALUE;
            default -> answer;
        };
    }

    private static String answer(String expression) throws Exception {
        Matcher told = TOLD.matcher(expression);
        if (told.matches()) {
            return "" + Due.tell(mill, joined(told.group(1)));
        }
        Matcher call = CALL.matcher(expression);
        if (!call.matches()) {
            return "no call: " + expression;
        }
        for (Method method : ClapMill.class.getMethods()) {
            if (method.getName().equals(call.group(1))) {
                shown.add(method.getName());
                return invoked(method, call.group(2));
            }
        }
        return "no such call: " + expression;
    }

    private static String joined(String quotes) {
        StringBuilder text = new StringBuilder();
        Matcher quoted = QUOTED.matcher(quotes);
        while (quoted.find()) {
            text.append(quoted.group(1));
        }
        return text.toString();
    }

    private static String invoked(Method method, String written) throws Exception {
        String[] words = written.isEmpty() ? new String[0] : written.split(", ");
        Object[] values = new Object[words.length];
        for (int i = 0; i < words.length; i++) {
            boolean isTruth = words[i].equals("true") || words[i].equals("false");
            values[i] = isTruth ? (Object) words[i].equals("true") : (Object) Integer.decode(words[i]);
        }
        try {
            return "" + method.invoke(mill, values);
        } catch (InvocationTargetException e) {
            return "throws " + e.getCause().getClass().getSimpleName();
        }
    }
}
