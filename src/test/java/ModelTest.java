import java.lang.reflect.Method;
import java.lang.reflect.Modifier;
import java.nio.charset.StandardCharsets;
import java.util.ArrayList;
import java.util.Arrays;
import java.util.Comparator;
import java.util.List;
import java.util.Random;

/** Long random runs on the class and on the naive model: every answer must be the same. */
public final class ModelTest {
    private static final int RUNS = 500;
    private static final List<String> ACTS = List.of("send", "send", "send", "evening", "evening", "call", "undo", "redo");
    private final Checks checks = new Checks();
    private final List<Method> methods = new ArrayList<>();

    public static void main(String[] args) throws Exception {
        ModelTest test = new ModelTest();
        int runs = args.length > 1 ? Integer.parseInt(args[1]) : RUNS;
        int from = args.length > 2 ? Integer.parseInt(args[2]) : 0;
        for (int run = from; run < from + runs; run++) {
            test.play(run);
        }
        test.checks.close("ModelTest");
    }

    private ModelTest() {
        for (Method m : FaithfulStools.class.getDeclaredMethods()) {
            if (Modifier.isPublic(m.getModifiers()) && !m.getName().equals("feed") && !m.getName().equals("chapel")) {
                methods.add(m);
            }
        }
        methods.sort(Comparator.comparing(Method::getName));
    }

    private void play(int run) throws Exception {
        Random random = new Random(run);
        Texts texts = new Texts(random);
        FaithfulStools x = new FaithfulStools();
        Model model = new Model();
        boolean full = run % 10 == 0;
        tell(run, x, model, full ? texts.whole(6, 5) : texts.fine(4, 4));
        for (int i = 0; i < 440; i++) {
            int kind = random.nextInt(100);
            if (kind < 3) {
                tell(run, x, model, texts.spoilt(full ? texts.whole(6, 5) : texts.fine(4, 4)));
            } else if (kind < 40) {
                String act = ACTS.get(random.nextInt(ACTS.size()));
                invoke(run, x, model, methods.stream().filter(m -> m.getName().equals(act)).findFirst().get(), random);
            } else {
                invoke(run, x, model, methods.get(random.nextInt(methods.size())), random);
            }
        }
    }

    private void tell(int run, FaithfulStools x, Model model, String text) {
        byte[] bytes = text.getBytes(StandardCharsets.ISO_8859_1);
        x.end(0);
        model.end(0);
        for (int i = 0; i < bytes.length; i += 20) {
            byte[] p = Arrays.copyOf(Arrays.copyOfRange(bytes, i, Math.min(bytes.length, i + 20)), 20);
            int[] w = new int[5];
            for (int j = 0; j < 20; j++) {
                w[j / 4] = w[j / 4] << 8 | p[j] & 255;
            }
            checks.due("run " + run + ": feed", x.feed(w[0], w[1], w[2], w[3], w[4]), model.feed(w[0], w[1], w[2], w[3], w[4]));
        }
        checks.due("run " + run + ": end", x.end(bytes.length), model.end(bytes.length));
        checks.due("run " + run + ": chapel() of " + text, x.chapel(), model.chapel());
        checks.due("run " + run + ": fault(0) of " + text, x.fault(0), model.fault(0));
        checks.due("run " + run + ": fault(1) of " + text, x.fault(1), model.fault(1));
    }

    private void invoke(int run, FaithfulStools x, Model model, Method method, Random random) throws Exception {
        Class<?>[] types = method.getParameterTypes();
        Object[] args = new Object[types.length];
        for (int i = 0; i < types.length; i++) {
            args[i] = types[i] == boolean.class ? (Object) random.nextBoolean() : (Object) number(random, i);
        }
        Object want = Model.class.getDeclaredMethod(method.getName(), types).invoke(model, args);
        Object got = method.invoke(x, args);
        String call = "run " + run + ": " + method.getName() + Arrays.toString(args);
        checks.due(call, value(got), value(want));
    }

    private static long value(Object answer) {
        return answer instanceof Boolean b ? (b ? 1 : 0) : (Integer) answer;
    }

    private static int number(Random random, int i) {
        int kind = random.nextInt(20);
        if (kind == 0) {
            return new int[] {Integer.MIN_VALUE, Integer.MAX_VALUE, -1, -2, -99, -100, 99, 100, 60, 61, 1000, 1001}[random.nextInt(12)];
        }
        if (kind < 3) {
            return random.nextInt(220) - 110;
        }
        return kind < 7 && i > 0 ? random.nextInt(20) : random.nextInt(6);
    }
}
