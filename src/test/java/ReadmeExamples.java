import java.io.IOException;
import java.lang.reflect.Method;
import java.lang.reflect.Modifier;
import java.nio.charset.StandardCharsets;
import java.nio.file.Files;
import java.nio.file.Path;
import java.util.regex.Matcher;
import java.util.regex.Pattern;

// The example of README.md answers what it says there, and no call is left out. Runs in the project's folder.
public final class ReadmeExamples extends Checks {
    private static final Pattern CALL = Pattern.compile("x\\.(\\w+)\\((.*)\\); +// (-?\\d+(?:\\.\\d+)?)(?::.*)?");
    private static final Pattern TYPED = Pattern.compile("for \\(char c : \"(.*)\"\\.toCharArray\\(\\)\\) x\\.append\\(c\\);");

    private static Method methodNamed(String name) {
        for (Method method : CrookedSums.class.getDeclaredMethods()) {
            if (Modifier.isPublic(method.getModifiers()) && method.getName().equals(name)) {
                return method;
            }
        }
        throw new IllegalArgumentException("README.md calls " + name + ", which the class has not");
    }

    private static double answer(CrookedSums x, String name, String told) throws ReflectiveOperationException {
        String[] words = told.isEmpty() ? new String[0] : told.split(", ");
        Object[] arguments = new Object[words.length];
        for (int i = 0; i < words.length; i++) {
            boolean isTruth = words[i].equals("true") || words[i].equals("false");
            arguments[i] = isTruth ? (Object) Boolean.valueOf(words[i]) : (Object) Integer.valueOf(words[i]);
        }
        return ((Number) methodNamed(name).invoke(x, arguments)).doubleValue();
    }

    private static void runLine(CrookedSums x, String line) throws ReflectiveOperationException {
        Matcher typed = TYPED.matcher(line);
        Matcher call = CALL.matcher(line);
        if (typed.matches()) {
            for (char c : typed.group(1).toCharArray()) {
                x.append(c);
            }
        } else if (call.matches()) {
            dueD(line, answer(x, call.group(1), call.group(2)), Double.parseDouble(call.group(3)));
        } else if (!line.isEmpty() && !line.startsWith("CrookedSums x = new CrookedSums();")) {
            wrong("a line without an answer: " + line);
        }
    }

    private static void runExample(String readme) throws ReflectiveOperationException {
        String opening = "```java\n";
        int from = readme.indexOf(opening);
        int to = readme.indexOf("\n```", from + 1);
        if (from < 0 || to < 0) {
            wrong("README.md has no example");
            return;
        }
        CrookedSums x = new CrookedSums();
        for (String line : readme.substring(from + opening.length(), to).split("\n")) {
            runLine(x, line);
        }
    }

    private static void dueAllNamed(String readme) {
        for (Method method : CrookedSums.class.getDeclaredMethods()) {
            if (Modifier.isPublic(method.getModifiers()) && !readme.contains("`" + method.getName() + "`")) {
                wrong("README.md does not name " + method.getName());
            }
        }
    }

    public static void main(String[] args) throws IOException, ReflectiveOperationException {
        String readme = Files.readString(Path.of("README.md"), StandardCharsets.UTF_8).replace("\r\n", "\n");
        runExample(readme);
        dueAllNamed(readme);
        if (checks == 0) {
            wrong("README.md tells no answer");
        }
        tellAndExit();
    }
}
