import java.io.IOException;
import java.lang.reflect.InvocationTargetException;
import java.lang.reflect.Method;
import java.lang.reflect.Modifier;
import java.nio.file.Files;
import java.nio.file.Path;
import java.util.List;
import java.util.regex.Matcher;
import java.util.regex.Pattern;

/** The examples of README.md: each call answers what its comment begins with. */
public final class ReadmeTest {
    private static final Path README = Path.of("README.md");
    private static final String NEW_OBJECT = "CrossbarNet net = new CrossbarNet();";
    private static final Pattern CALL = Pattern.compile("net\\.(\\w+)\\((.*)\\);\\s*(?://\\s*([^:]*).*)?");
    private static final String VOID = "nothing";

    private CrossbarNet net;

    public static void main(String[] args) throws IOException {
        List<String> lines = Files.readAllLines(README);
        new ReadmeTest().examplesHold(lines);
        eachMethodStandsThere(String.join("\n", lines));
        Check.finish();
    }

    private void examplesHold(List<String> lines) {
        boolean inExample = false;
        int calls = 0;
        for (String line : lines) {
            if (line.startsWith("```")) {
                inExample = line.equals("```java");
                net = null;
            } else if (inExample && line.equals(NEW_OBJECT)) {
                net = new CrossbarNet();
            } else if (inExample) {
                calls++;
                lineHolds(line);
            }
        }
        Check.due("README.md has examples", calls > 0, true);
    }

    private void lineHolds(String line) {
        Matcher call = CALL.matcher(line);
        if (net == null || !call.matches()) {
            Check.fails("README.md has an example that this test can't read: " + line);
            return;
        }
        String said = call.group(3) == null ? "" : call.group(3).trim();
        String got = answerOf(call.group(1), call.group(2).split(", "));
        boolean mayBeRemark = got.equals(VOID) && !said.endsWith("Exception");
        if (!mayBeRemark) {
            Check.due("README.md: " + line, got, valueOf(said));
        }
    }

    private String answerOf(String name, String[] texts) {
        Method method = methodNamed(name);
        Object[] values = new Object[texts.length];
        for (int i = 0; i < texts.length; i++) {
            boolean isTruth = texts[i].equals("true") || texts[i].equals("false");
            values[i] = isTruth ? (Object) Boolean.valueOf(texts[i]) : Integer.valueOf(texts[i]);
        }
        try {
            Object got = method.invoke(net, values);
            return got == null ? VOID : got.toString();
        } catch (InvocationTargetException e) {
            return e.getCause().getClass().getSimpleName();
        } catch (IllegalAccessException e) {
            throw new IllegalStateException(e);
        }
    }

    private static Method methodNamed(String name) {
        for (Method method : CrossbarNet.class.getDeclaredMethods()) {
            if (method.getName().equals(name) && Modifier.isPublic(method.getModifiers())) {
                return method;
            }
        }
        throw new IllegalStateException("README.md has an example of a method that there is not: " + name);
    }

    /** The number of a constant of the face, or the text itself. */
    private static String valueOf(String said) {
        try {
            return CrossbarNet.class.getField(said).get(null).toString();
        } catch (NoSuchFieldException e) {
            return said;
        } catch (IllegalAccessException e) {
            throw new IllegalStateException(e);
        }
    }

    private static void eachMethodStandsThere(String readme) {
        for (Method method : CrossbarNet.class.getDeclaredMethods()) {
            if (Modifier.isPublic(method.getModifiers())) {
                String name = method.getName();
                Check.due("README.md tells of " + name, readme.contains("`" + name + "("), true);
                Check.due("README.md has an example of " + name, readme.contains("\nnet." + name + "("), true);
            }
        }
    }
}
