import java.io.IOException;
import java.lang.reflect.Constructor;
import java.lang.reflect.Field;
import java.lang.reflect.Method;
import java.lang.reflect.Modifier;
import java.nio.file.Files;
import java.nio.file.Path;
import java.util.HashSet;
import java.util.List;
import java.util.Set;
import java.util.TreeSet;
import java.util.regex.Matcher;
import java.util.regex.Pattern;

// "The public face" of the document, and what ../shared/LANGUAGE.md says of members, as the compiled class shows them.
public final class FaceTest {
    private static final int MOST_PARAMETERS = 7;
    private static final int MOST_FIELDS = 20;
    private static final List<Class<?>> CONSTANTS = List.of(int.class, long.class, boolean.class, char.class, String.class,
        int[].class, long[].class, char[].class, byte[].class);

    public static void main(String[] args) throws IOException {
        face();
        constructors();
        constants();
        membersOf(FarSide.class);
        for (Class<?> inside : FarSide.class.getDeclaredClasses()) {
            insideOf(inside);
            membersOf(inside);
        }
        Due.end();
    }

    private static void face() throws IOException {
        Set<String> told = new TreeSet<>();
        Matcher line = Pattern.compile("(?m)^    public (\\w+ \\w+\\(.*\\));$").matcher(Files.readString(Path.of("../shared/DOC.md")));
        while (line.find()) {
            told.add(line.group(1).replaceAll("(\\w+) \\w+(?=[,)])", "$1"));
        }
        Set<String> made = new TreeSet<>();
        for (Method method : FarSide.class.getDeclaredMethods()) {
            if (!Modifier.isPrivate(method.getModifiers())) {
                Due.is("the modifiers of " + method.getName(), method.getModifiers(), Modifier.PUBLIC);
                made.add(signature(method));
            }
        }
        Due.is("methods that the document tells", told.size(), 50);
        Due.same("the methods", made.toString(), told.toString());
        Due.is("the modifiers of the class", FarSide.class.getModifiers(), Modifier.PUBLIC | Modifier.FINAL);
    }

    private static String signature(Method method) {
        StringBuilder signature = new StringBuilder(method.getReturnType().getSimpleName() + " " + method.getName() + "(");
        for (Class<?> type : method.getParameterTypes()) {
            signature.append(signature.toString().endsWith("(") ? "" : ", ").append(type.getSimpleName());
        }
        return signature.append(")").toString();
    }

    private static void constructors() {
        Constructor<?>[] constructors = FarSide.class.getDeclaredConstructors();
        Due.is("constructors", constructors.length, 1);
        Due.is("the constructor's modifiers", constructors[0].getModifiers(), Modifier.PUBLIC);
        Due.is("its parameters", constructors[0].getParameterCount(), 0);
    }

    private static void constants() {
        for (Field field : FarSide.class.getDeclaredFields()) {
            Due.yes(field.getName() + " is private, or told", Modifier.isPrivate(field.getModifiers()) || field.getName().equals("NONE"));
        }
        Due.is("NONE", FarSide.NONE, -1);
    }

    private static void insideOf(Class<?> inside) {
        Due.yes(inside.getName() + " is static", Modifier.isStatic(inside.getModifiers()));
        Due.no(inside.getName() + " is to be seen from outside", (inside.getModifiers() & (Modifier.PUBLIC | Modifier.PROTECTED)) != 0);
    }

    private static void membersOf(Class<?> one) {
        Set<String> faceNames = new HashSet<>();
        for (Method method : FarSide.class.getMethods()) {
            faceNames.add(method.getName());
        }
        for (Method method : one.getDeclaredMethods()) {
            String name = one.getSimpleName() + "." + method.getName();
            Due.yes(name + " has seven parameters at most", method.getParameterCount() <= MOST_PARAMETERS);
            Due.no(name + " is private and named as a public one",
                Modifier.isPrivate(method.getModifiers()) && faceNames.contains(method.getName()));
        }
        int fields = 0;
        for (Field field : one.getDeclaredFields()) {
            String name = one.getSimpleName() + "." + field.getName();
            if (Modifier.isStatic(field.getModifiers())) {
                Due.yes(name + " is final", Modifier.isFinal(field.getModifiers()));
                Due.yes(name + " is a constant", CONSTANTS.contains(field.getType()));
            } else {
                fields++;
            }
        }
        Due.yes(one.getSimpleName() + " has twenty fields at most", fields <= MOST_FIELDS);
    }
}
