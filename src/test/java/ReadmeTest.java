import java.io.IOException;
import java.lang.reflect.Field;
import java.lang.reflect.Method;
import java.lang.reflect.Modifier;
import java.nio.file.Files;
import java.nio.file.Path;
import java.util.regex.Matcher;
import java.util.regex.Pattern;

/** What README.md tells of the class: the answers of its example, every call, every constant. */
public final class ReadmeTest {
    private static final Pattern TEXT = Pattern.compile("String text = \"([^\"]*)\";");
    private static final Pattern CALL = Pattern.compile("\\nx\\.(\\w+)\\(([^)\\n]*)\\);([^\\n]*)");
    private static final Pattern ANSWER = Pattern.compile(" +// (-?\\d+): .+");

    public static void main(String[] args) throws ReflectiveOperationException, IOException {
        String readme = Files.readString(Path.of("README.md"));
        theExample(readme);
        everyCall(readme);
        everyConstant(readme);
        Due.isTrue("how the tests are run", readme.contains("\n.ci/run\n"));
        Due.end();
    }

    private static void theExample(String readme) throws ReflectiveOperationException {
        int begin = readme.indexOf("```java\n");
        int end = readme.indexOf("\n```\n", Math.max(begin, 0));
        Matcher text = TEXT.matcher(readme);
        Due.isTrue("there is an example with a text", begin >= 0 && end > begin && text.find());
        if (Due.wrongSoFar() > 0) {
            return;
        }
        WitnessWall x = new WitnessWall();
        Due.write(x, text.group(1));
        Matcher call = CALL.matcher(readme.substring(begin, end + 1));
        int calls = 0;
        while (call.find()) {
            Matcher told = ANSWER.matcher(call.group(3));
            Due.isTrue("an answer is told: " + call.group().trim(), told.matches());
            long want = told.matches() ? Long.parseLong(told.group(1)) : 0;
            Due.is("README: " + call.group().trim(), answerOf(x, call.group(1), call.group(2)), want);
            calls++;
        }
        Due.isTrue("calls of the example: " + calls, calls > 10);
    }

    /** Calls have names of their own, so the name is enough to find one. */
    private static long answerOf(WitnessWall x, String name, String told) throws ReflectiveOperationException {
        for (Method method : WitnessWall.class.getMethods()) {
            if (method.getDeclaringClass() == WitnessWall.class && method.getName().equals(name)) {
                return ((Number) method.invoke(x, numbersOf(method, told))).longValue();
            }
        }
        throw new NoSuchMethodException(name);
    }

    private static Object[] numbersOf(Method method, String told) {
        String[] parts = told.isEmpty() ? new String[0] : told.split(", ");
        Object[] numbers = new Object[parts.length];
        for (int place = 0; place < parts.length; place++) {
            boolean yesOrNo = method.getParameterTypes()[place] == boolean.class;
            numbers[place] = yesOrNo ? (Object) Boolean.valueOf(parts[place]) : Integer.valueOf(parts[place]);
        }
        return numbers;
    }

    private static void everyCall(String readme) {
        for (Method method : WitnessWall.class.getDeclaredMethods()) {
            if (Modifier.isPublic(method.getModifiers())) {
                Due.is("README tells the call and its numbers: " + method.getName(),
                        numbersToldOf(method, readme), method.getParameterCount());
            }
        }
    }

    private static int numbersToldOf(Method method, String readme) {
        Matcher told = Pattern.compile("\\n\\|[^\\n]*`" + method.getName() + "\\(([^)]*)\\)`").matcher(readme);
        if (!told.find()) {
            return -1;
        }
        return told.group(1).isEmpty() ? 0 : told.group(1).split(", ").length;
    }

    private static void everyConstant(String readme) throws ReflectiveOperationException {
        for (Field field : WitnessWall.class.getFields()) {
            String row = "\n| " + field.getInt(null) + " | `" + field.getName() + "` | ";
            Due.isTrue("README tells " + field.getName(), readme.contains(row));
        }
    }
}
