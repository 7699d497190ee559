import java.lang.reflect.Method;
import java.lang.reflect.Modifier;
import java.nio.file.Files;
import java.nio.file.Path;
import java.util.Set;
import java.util.TreeSet;
import java.util.regex.Matcher;
import java.util.regex.Pattern;

/** Asks the examples of README.md, and looks whether it names every call and every refusal. */
public final class ReadmeTest {
    private static final Check C = new Check("ReadmeTest");
    private static final Pattern CALL = Pattern.compile("road\\.(\\w+)\\((.*?)\\);\\s+// (-?\\d+)(?::.*)?");

    public static void main(String[] args) throws Exception {
        String text = Files.readString(Path.of("README.md"));
        examples(text);
        names(text);
        C.end();
    }

    private static void examples(String text) throws Exception {
        Matcher block = Pattern.compile("(?s)```java\n(.*?)```").matcher(text);
        int blocks = 0;
        while (block.find()) {
            blocks++;
            IceRoad road = null;
            for (String line : block.group(1).split("\n")) {
                if (line.equals("IceRoad road = new IceRoad();")) {
                    road = new IceRoad();
                    continue;
                }
                Matcher call = CALL.matcher(line);
                boolean isCall = road != null && call.matches();
                C.due("'" + line + "' is a call with its answer", isCall ? 1 : 0, 1);
                if (isCall) {
                    int answer = ask(road, call.group(1), call.group(2));
                    C.due(line, answer, Integer.parseInt(call.group(3)));
                }
            }
        }
        C.due("there are examples", blocks > 0 ? 1 : 0, 1);
    }

    private static int ask(IceRoad road, String name, String told) throws Exception {
        String[] texts = told.isEmpty() ? new String[0] : told.split(", ");
        for (Method method : IceRoad.class.getMethods()) {
            if (method.getName().equals(name) && method.getReturnType() == int.class) {
                Object[] values = new Object[texts.length];
                for (int i = 0; i < texts.length; i++) {
                    boolean isFlag = method.getParameterTypes()[i] == boolean.class;
                    values[i] = isFlag ? (Object) Boolean.valueOf(texts[i]) : (Object) Integer.decode(texts[i]);
                }
                return (Integer) method.invoke(road, values);
            }
        }
        throw new IllegalArgumentException("no call " + name);
    }

    private static void names(String text) {
        Set<String> missing = new TreeSet<>();
        for (Method method : IceRoad.class.getDeclaredMethods()) {
            boolean isPublic = Modifier.isPublic(method.getModifiers());
            if (isPublic && !text.contains("`" + method.getName() + "`")) {
                missing.add(method.getName());
            }
        }
        C.due("calls that README.md doesn't name: " + missing, missing.size(), 0);
        String[] refusals = {"MISSING", "BEYOND", "BELOW", "KIND", "COPY", "NO", "FULL"};
        for (int i = 0; i < refusals.length; i++) {
            String named = "`" + refusals[i] + "` " + (-2 - i);
            C.due("README.md names " + named, text.contains(named) ? 1 : 0, 1);
        }
    }
}
