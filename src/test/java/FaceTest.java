import java.lang.reflect.Constructor;
import java.lang.reflect.Field;
import java.lang.reflect.Method;
import java.lang.reflect.Modifier;
import java.nio.file.Files;
import java.nio.file.Path;
import java.util.Set;
import java.util.TreeSet;
import java.util.regex.Matcher;
import java.util.regex.Pattern;

/** The public face of the class, and the words that LANGUAGE.md keeps out of it. */
public final class FaceTest {
    private static final Check C = new Check("FaceTest");

    private static final String[] CONSTANTS = {
        "NONE -1", "MISSING -2", "BEYOND -3", "BELOW -4", "KIND -5", "COPY -6", "NO -7", "FULL -8",
    };

    private static final String[] METHODS = {
        "cell int int boolean", "look int int", "thick int int", "read int", "bears int int", "weather int int",
        "cold", "heat int", "sweep int", "flood int", "bypass int", "snow int", "load int int int", "of int int",
        "may int int", "why int int", "turn int", "run int", "thaw int int", "feed int int", "wipe",
        "rule int int", "said int int int", "count int", "tell int int", "tear", "row int", "copy int int int",
        "status int",
    };

    private static final String[] RULED_OUT = {
        "throw", "throws", "try", "catch", "finally", "synchronized", "assert", "import", "package", "System\\.out",
        "->", "::", "protected", "hashCode", "toString", "\\w+Exact",
    };

    public static void main(String[] args) throws Exception {
        constants();
        methods();
        sizes(IceRoad.class);
        words();
        news();
        methodLengths();
        C.end();
    }

    private static void constants() throws Exception {
        Set<String> found = new TreeSet<>();
        for (Field field : IceRoad.class.getDeclaredFields()) {
            if (!Modifier.isPrivate(field.getModifiers())) {
                found.add(field.getName() + " " + field.getInt(null));
                C.due(field.getName() + " is a public constant", field.getModifiers(),
                        Modifier.PUBLIC | Modifier.STATIC | Modifier.FINAL);
            } else if (Modifier.isStatic(field.getModifiers())) {
                C.due(field.getName() + " is final", field.getModifiers() & Modifier.FINAL, Modifier.FINAL);
            }
        }
        C.due("the constants: " + found, found.equals(new TreeSet<>(Set.of(CONSTANTS))) ? 1 : 0, 1);
    }

    private static void methods() {
        Set<String> found = new TreeSet<>();
        Set<String> names = new TreeSet<>();
        for (Method method : IceRoad.class.getDeclaredMethods()) {
            if (!Modifier.isPrivate(method.getModifiers())) {
                StringBuilder form = new StringBuilder(method.getName());
                for (Class<?> type : method.getParameterTypes()) {
                    form.append(' ').append(type.getName());
                }
                found.add(form.toString());
                names.add(method.getName());
                C.due(form + " answers an int", method.getReturnType() == int.class ? 1 : 0, 1);
                C.due(form + " is public", method.getModifiers(), Modifier.PUBLIC);
            }
        }
        C.due("the methods: " + found, found.equals(new TreeSet<>(Set.of(METHODS))) ? 1 : 0, 1);
        for (Method method : IceRoad.class.getDeclaredMethods()) {
            if (Modifier.isPrivate(method.getModifiers())) {
                C.due("private " + method.getName(), names.contains(method.getName()) ? 1 : 0, 0);
            }
        }
        Constructor<?>[] constructors = IceRoad.class.getDeclaredConstructors();
        C.due("constructors", constructors.length, 1);
        C.due("constructor", constructors[0].getParameterCount() + constructors[0].getModifiers(), Modifier.PUBLIC);
        C.due("the class", IceRoad.class.getModifiers(), Modifier.PUBLIC | Modifier.FINAL);
        for (Class<?> inside : IceRoad.class.getDeclaredClasses()) {
            int modifiers = inside.getModifiers();
            C.due(inside.getName() + " is static", modifiers & Modifier.STATIC, Modifier.STATIC);
            C.due(inside.getName() + " is not public", modifiers & Modifier.PUBLIC, 0);
            for (Method method : inside.getDeclaredMethods()) {
                String name = inside.getName() + "." + method.getName();
                C.due(name + " bears the name of a call", names.contains(method.getName()) ? 1 : 0, 0);
            }
            sizes(inside);
        }
        C.due("at most twelve classes", IceRoad.class.getDeclaredClasses().length < 12 ? 1 : 0, 1);
    }

    /** Rule 11: seven parameters and some twenty fields at most; rule 5: static fields are final. */
    private static void sizes(Class<?> seen) {
        int fields = 0;
        for (Field field : seen.getDeclaredFields()) {
            fields += Modifier.isStatic(field.getModifiers()) ? 0 : 1;
            boolean isState = Modifier.isStatic(field.getModifiers()) && !Modifier.isFinal(field.getModifiers());
            C.due(field + " is static state", isState ? 1 : 0, 0);
        }
        C.due(seen.getName() + " has at most twenty fields", fields <= 20 ? 1 : 0, 1);
        for (Method method : seen.getDeclaredMethods()) {
            C.due(method + " takes at most seven", method.getParameterCount() <= 7 ? 1 : 0, 1);
        }
    }

    private static String code() throws Exception {
        String text = Files.readString(Path.of("src/main/java/IceRoad.java"));
        return text.replaceAll("(?s)/\\*.*?\\*/", "").replaceAll("//[^\n]*", "");
    }

    /** All calls of a run live in one room, so objects are made with the road alone: in fields and its constructor. */
    private static void news() throws Exception {
        boolean isConstructor = false;
        for (String line : code().split("\n")) {
            isConstructor = line.equals("    public IceRoad() {") || isConstructor && !line.equals("    }");
            boolean isField = line.matches(" +(private )?final \\S+ \\w+ = new .*");
            boolean makes = line.matches(".*\\bnew\\b.*");
            C.due("'" + line.trim() + "' makes an object", makes && !isField && !isConstructor ? 1 : 0, 0);
        }
    }

    /** Rule 11: methods have some sixty lines at most. */
    private static void methodLengths() throws Exception {
        Matcher method = Pattern.compile("(?ms)^( {4}| {8})[^ }][^;]*?\\) \\{\n.*?^\\1}").matcher(code());
        int methods = 0;
        while (method.find()) {
            methods++;
            String[] lines = method.group().split("\n");
            C.due("'" + lines[0].trim() + "' has at most sixty lines", lines.length <= 60 ? 1 : 0, 1);
        }
        C.due("methods were seen", methods >= METHODS.length ? 1 : 0, 1);
    }

    private static void words() throws Exception {
        String code = code();
        for (String word : RULED_OUT) {
            String whole = Character.isLetter(word.charAt(0)) ? "\\b" + word + "\\b" : word;
            C.due("'" + word + "' stands in the class", Pattern.compile(whole).matcher(code).find() ? 1 : 0, 0);
        }
    }
}
