import java.io.IOException;
import java.lang.reflect.Method;
import java.lang.reflect.Modifier;
import java.nio.file.Files;
import java.nio.file.Path;
import java.util.HashMap;
import java.util.Map;
import java.util.regex.Matcher;
import java.util.regex.Pattern;

// README.md's examples answer what it says of them, its texts have no fault, and it names each method.
public final class ReadmeTest {
    private static final Pattern BLOCK = Pattern.compile("(?ms)^```(\\w+)\n(.*?)^```$");
    private static final Pattern CALL = Pattern.compile("(?m)^(?:int (\\w+) = )?x\\.(\\w+)\\((.*?)\\);(?: *// (\\w+).*)?$");

    private static final FarSide X = new FarSide();
    private static final Map<String, Integer> NUMBERS = new HashMap<>();

    public static void main(String[] args) throws IOException, ReflectiveOperationException {
        String readme = Files.readString(Path.of("README.md"));
        int calls = 0;
        Matcher block = BLOCK.matcher(readme);
        while (block.find()) {
            if (block.group(1).equals("java")) {
                calls += callsOf(block.group(2));
            } else if (block.group(1).equals("text")) {
                Due.fault(block.group(2), 0, -1);
            }
        }
        Due.is("calls in the examples", calls, readme.split("(?m)^x\\.|^int number = x\\.", -1).length - 1);
        for (Method method : FarSide.class.getDeclaredMethods()) {
            if (Modifier.isPublic(method.getModifiers())) {
                Due.yes("README names " + method.getName(), readme.contains("`" + method.getName() + "`"));
            }
        }
        Due.end();
    }

    private static int callsOf(String example) throws ReflectiveOperationException {
        int calls = 0;
        Matcher call = CALL.matcher(example);
        while (call.find()) {
            String answer = String.valueOf(answer(call.group(2), call.group(3).isEmpty() ? new String[0] : call.group(3).split(", ")));
            if (call.group(1) != null) {
                NUMBERS.put(call.group(1), Integer.parseInt(answer));
            }
            if (call.group(4) != null) {
                Due.same(call.group(), answer, call.group(4));
            }
            calls++;
        }
        return calls;
    }

    private static Object answer(String name, String[] told) throws ReflectiveOperationException {
        for (Method method : FarSide.class.getMethods()) {
            if (method.getName().equals(name) && method.getDeclaringClass() == FarSide.class) {
                Object[] arguments = new Object[told.length];
                for (int i = 0; i < told.length; i++) {
                    arguments[i] = NUMBERS.containsKey(told[i]) ? NUMBERS.get(told[i]) : Integer.decode(told[i]);
                }
                return method.invoke(X, arguments);
            }
        }
        return "no such method";
    }
}
