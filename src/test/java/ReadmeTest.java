import java.lang.reflect.Method;
import java.lang.reflect.Modifier;
import java.nio.file.Files;
import java.nio.file.Path;
import java.util.Map;
import java.util.TreeMap;
import java.util.regex.Matcher;
import java.util.regex.Pattern;

/** README.md keeps its word: its calls answer as it says, and each call is named; the first argument is the source's path. */
public final class ReadmeTest extends Checks {
    private static final Pattern BLOCK = Pattern.compile("```(\\w+)\n(.*?)```", Pattern.DOTALL);
    private static final Pattern CALL = Pattern.compile("x\\.(\\w+)\\(([^)]*)\\); +// (-?\\d+|true|false)\\b.*");
    private static final int LEAST_CALLS = 40;

    private final Map<String, Method> face = new TreeMap<>();
    private int calls = 0;

    public static void main(String[] args) throws Exception {
        Path root = Path.of(args[0]).toAbsolutePath().getParent().resolve("../../..");
        String page = Files.readString(root.resolve("README.md"));
        ReadmeTest test = new ReadmeTest();
        test.names(page);
        test.play(page);
        test.close("ReadmeTest");
    }

    private ReadmeTest() {
        for (Method m : FaithfulStools.class.getDeclaredMethods()) {
            if (Modifier.isPublic(m.getModifiers())) {
                face.put(m.getName(), m);
            }
        }
    }

    private void names(String page) {
        for (String name : face.keySet()) {
            due("README names " + name, page.contains("`" + name + "`"), true);
        }
    }

    /** A text is told to a new object; the calls of the blocks behind it are asked of that. */
    private void play(String page) throws Exception {
        FaithfulStools x = new FaithfulStools();
        Matcher blocks = BLOCK.matcher(page);
        while (blocks.find()) {
            if (blocks.group(1).equals("text")) {
                x = told(blocks.group(2));
            } else if (blocks.group(1).equals("java")) {
                for (String line : blocks.group(2).split("\n")) {
                    ask(x, line);
                }
            }
        }
        due("calls are seen", calls >= LEAST_CALLS, true);
    }

    private void ask(FaithfulStools x, String line) throws Exception {
        Matcher call = CALL.matcher(line);
        if (!call.matches()) {
            return;
        }
        calls++;
        Method method = face.get(call.group(1));
        Class<?>[] types = method.getParameterTypes();
        String[] words = call.group(2).split(", *");
        Object[] args = new Object[types.length];
        for (int i = 0; i < args.length; i++) {
            args[i] = types[i] == boolean.class ? (Object) Boolean.valueOf(words[i]) : (Object) Integer.decode(words[i]);
        }
        String got = String.valueOf(method.invoke(x, args));
        due("README: " + line + " but " + got, got.equals(call.group(3)), true);
    }
}
