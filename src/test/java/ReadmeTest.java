import java.io.IOException;
import java.lang.reflect.Method;
import java.lang.reflect.Modifier;
import java.nio.file.Files;
import java.nio.file.Path;
import java.util.regex.Matcher;
import java.util.regex.Pattern;

/** What README.md says of the class's use holds: each call of its example answers what stands behind it. */
public final class ReadmeTest {
    private static final Pattern TYPED = Pattern.compile("String text = \"([^;]|;[^\n])*\";");
    private static final Pattern CALL = Pattern.compile("(?m)^x\\.(\\w+)\\(([\\d, ]*)\\);\\s*// (-?\\d+):");
    private static final Due DUE = new Due();

    public static void main(String[] args) throws IOException, ReflectiveOperationException {
        String readme = Files.readString(Path.of("README.md"));
        Matcher typed = TYPED.matcher(readme);
        boolean found = typed.find();
        DUE.is("the example types a text", 1, found ? 1 : 0);
        PartText x = new PartText();
        for (char octet : (found ? joined(typed.group()) : "").toCharArray()) {
            x.sign(octet);
        }
        int calls = 0;
        Matcher call = CALL.matcher(readme);
        while (call.find()) {
            calls++;
            String told = call.group(1) + "(" + call.group(2) + ")";
            DUE.is(told, Integer.parseInt(call.group(3)), answer(x, call.group(1), call.group(2)));
        }
        DUE.is("the example has calls", 1, calls > 5 ? 1 : 0);
        DUE.is("it says how to run the tests", 1, readme.contains("\n    .ci/run\n") ? 1 : 0);
        everyMethod(readme);
        DUE.end();
    }

    /** The text of a row of strings with + between. */
    private static String joined(String strings) {
        return strings.replaceAll("\"\\s*\\+\\s*\"", "").replaceAll("^[^\"]*\"|\"[^\"]*$", "");
    }

    private static int answer(PartText x, String name, String arguments) throws ReflectiveOperationException {
        String[] numbers = arguments.isEmpty() ? new String[0] : arguments.split(", ");
        Class<?>[] types = new Class<?>[numbers.length];
        Object[] values = new Object[numbers.length];
        for (int i = 0; i < numbers.length; i++) {
            types[i] = int.class;
            values[i] = Integer.valueOf(numbers[i]);
        }
        return (Integer) PartText.class.getMethod(name, types).invoke(x, values);
    }

    private static void everyMethod(String readme) {
        for (Method method : PartText.class.getDeclaredMethods()) {
            if (Modifier.isPublic(method.getModifiers())) {
                boolean used = readme.contains("x." + method.getName() + "(");
                DUE.is("it says how to use " + method.getName(), 1, used ? 1 : 0);
            }
        }
    }
}
