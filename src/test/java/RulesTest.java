import java.lang.reflect.Constructor;
import java.lang.reflect.Field;
import java.lang.reflect.Method;
import java.lang.reflect.Modifier;
import java.nio.file.Files;
import java.nio.file.Path;
import java.util.ArrayList;
import java.util.Arrays;
import java.util.HashSet;
import java.util.List;
import java.util.Set;
import java.util.TreeSet;
import java.util.regex.Matcher;
import java.util.regex.Pattern;

/** What of LANGUAGE.md and of the public face can be seen by a machine; the first argument is the source's path. */
public final class RulesTest {
    private static final String FACE = "feed(int,int,int,int,int) end(int) chapel() fault(int) hearth(int,int) stool(int,int)"
        + " load(int) send(int,int) call(int) evening() undo()? redo()? tonight(int) walk() round(int) service() team(int,int)"
        + " lasts(int,int) soon(int,int) change(int) guests(int,int) cover(int) pilgrim(int) will(int,int) strength(int,int)"
        + " saved() grace() easiest(int) forlorn() nearest(int) law(int) schisms() odds(int,int) lies(int)"
        + " dented(int,int,boolean) held(int,int,boolean) untell(int)? later(int) rows(int) sure(int,int) ask(int,int)"
        + " image(int) back(int) about(int)";
    private static final String[] FORBIDDEN = {"throw", "throws", "try", "catch", "finally", "synchronized", "assert", "abstract",
        "double", "float", "Object", "Exact", "hashCode", "toString", "->", "::", "\\+ *\"", "\" *\\+", "MAX_VALUE", "MIN_VALUE", "null"};
    private static final Set<String> LIBRARY = Set.of("Math.abs", "Math.max", "Math.min", "Math.floorMod", "Math.floorDiv",
        "Integer.bitCount", "System.arraycopy", "Arrays.fill");

    private final Checks checks = new Checks();
    private final String source;
    /** Without comments and what stands in texts. */
    private final String code;

    public static void main(String[] args) throws Exception {
        RulesTest test = new RulesTest(Files.readString(Path.of(args[0])));
        test.face();
        test.classes(FaithfulStools.class);
        test.words();
        test.methods();
        test.room();
        test.checks.close("RulesTest");
    }

    private RulesTest(String source) {
        this.source = source;
        code = source.replaceAll("(?s)/\\*.*?\\*/", "").replaceAll("//[^\n]*", "").replaceAll("\"[^\"\n]*\"", "\"\"")
            .replaceAll("'[^\n]{1,2}'", "' '");
    }

    private void face() {
        Set<String> want = new TreeSet<>(Arrays.asList(FACE.split(" ")));
        Set<String> got = new TreeSet<>();
        for (Method m : FaithfulStools.class.getDeclaredMethods()) {
            if (!Modifier.isPrivate(m.getModifiers())) {
                List<String> types = new ArrayList<>();
                for (Class<?> type : m.getParameterTypes()) {
                    types.add(type.getName());
                }
                checks.due("face: " + m + " is public, of the object", m.getModifiers(), Modifier.PUBLIC);
                got.add(m.getName() + "(" + String.join(",", types) + ")" + (m.getReturnType() == boolean.class ? "?" : ""));
            }
        }
        checks.due("face: methods " + got, got.equals(want), true);
        checks.due("face: class", FaithfulStools.class.getModifiers(), Modifier.PUBLIC | Modifier.FINAL);
        Constructor<?>[] made = FaithfulStools.class.getDeclaredConstructors();
        checks.due("face: constructors", made.length, 1);
        checks.due("face: constructor", made[0].getModifiers() == Modifier.PUBLIC && made[0].getParameterCount() == 0, true);
        for (Field f : FaithfulStools.class.getDeclaredFields()) {
            boolean constant = f.getName().equals("NONE") && f.getType() == int.class
                && f.getModifiers() == (Modifier.PUBLIC | Modifier.STATIC | Modifier.FINAL);
            checks.due("face: field " + f, constant || Modifier.isPrivate(f.getModifiers()), true);
        }
    }

    private void classes(Class<?> type) {
        Class<?>[] inside = type.getDeclaredClasses();
        checks.due("rule 11: classes", inside.length < 12, true);
        for (Class<?> c : inside) {
            checks.due("rule 1: " + c, Modifier.isStatic(c.getModifiers()) && !Modifier.isPublic(c.getModifiers())
                && !Modifier.isProtected(c.getModifiers()), true);
            checks.due("rule 2: " + c + " has none inside", c.getDeclaredClasses().length, 0);
        }
        List<Class<?>> all = new ArrayList<>(Arrays.asList(inside));
        all.add(type);
        for (Class<?> c : all) {
            int fields = 0;
            for (Field f : c.getDeclaredFields()) {
                if (Modifier.isStatic(f.getModifiers())) {
                    checks.due("rule 5: " + f, Modifier.isFinal(f.getModifiers())
                        && Set.of("int", "long", "char", "java.lang.String", "[I").contains(f.getType().getName()), true);
                } else {
                    fields++;
                }
            }
            checks.due("rule 11: fields of " + c, fields <= 20, true);
        }
    }

    private void words() {
        for (String word : FORBIDDEN) {
            String pattern = word.matches("[A-Za-z]+") ? (word.equals("Exact") ? "Exact\\b" : "\\b" + word + "\\b") : word;
            checks.due("rules 3, 4, 6, 10: no " + word, Pattern.compile(pattern).matcher(code).find(), false);
        }
        checks.due("one import", source.split("\nimport |^import ", -1).length - 1, 1);
        checks.due("import of Arrays", source.startsWith("import java.util.Arrays;"), true);
        Matcher calls = Pattern.compile("\\b(Math|Integer|Long|System|Arrays|String|Character)\\.\\w+").matcher(code);
        while (calls.find()) {
            checks.due("rule 4: " + calls.group(), LIBRARY.contains(calls.group()), true);
        }
        for (char c : source.toCharArray()) {
            if (c < 32 && c != '\n' || c > 126) {
                checks.due("plain signs", c, ' ');
            }
        }
    }

    private void methods() {
        Set<String> open = new HashSet<>();
        for (String face : FACE.split(" ")) {
            open.add(face.substring(0, face.indexOf('(')));
        }
        Matcher heads = Pattern.compile("\n( +)((?:public |private |static )*)(?:int|long|boolean|void) (\\w+)\\(([^)]*)\\) \\{\n").matcher(code);
        int found = 0;
        while (heads.find()) {
            found++;
            int close = code.indexOf("\n" + heads.group(1) + "}\n", heads.end() - 1);
            int lines = code.substring(heads.end(), Math.max(heads.end(), close)).split("\n").length;
            checks.due("rule 11: lines of " + heads.group(3), lines <= 60, true);
            checks.due("rule 11: parameters of " + heads.group(3), heads.group(4).split(",").length <= 7, true);
            boolean shown = heads.group(2).startsWith("public");
            checks.due("rule 1: name of " + heads.group(3), open.contains(heads.group(3)), shown);
        }
        checks.due("methods are seen", found > 100, true);
    }

    /** What is made is counted: an object is small, and no call makes anything. */
    private void room() {
        com.sun.management.ThreadMXBean threads =
            (com.sun.management.ThreadMXBean) java.lang.management.ManagementFactory.getThreadMXBean();
        long id = Thread.currentThread().getId();
        FaithfulStools x = Checks.told("hearth a at 1 heavy 9 room 3; hearth b at 5 heavy 4; stool x at 3 strong 9; stool y at 4 strong 8; cold 30;");
        long sum = everyCall(x);
        long before = threads.getThreadAllocatedBytes(id);
        for (int i = 0; i < 10; i++) {
            sum += everyCall(x);
        }
        long calls = threads.getThreadAllocatedBytes(id) - before;
        before = threads.getThreadAllocatedBytes(id);
        FaithfulStools y = new FaithfulStools();
        long made = threads.getThreadAllocatedBytes(id) - before;
        checks.due("calls make nothing, but " + calls, calls < 2000, true);
        checks.due("an object is small, but " + made, made < 40000, true);
        checks.due("answers are used", sum != Long.MIN_VALUE && y.about(0) == 0, true);
    }

    private static long everyCall(FaithfulStools x) {
        long sum = x.feed(0x73617665, 0x73203432, 0x20202020, 0x20202020, 0x20202020) + x.end(20) + x.chapel() + x.fault(0);
        sum += x.hearth(0, 5) + x.stool(0, 6) + x.load(0) + x.send(0, 0) + x.send(1, 0) + x.evening() + x.call(0);
        sum += (x.undo() ? 1 : 0) + (x.redo() ? 1 : 0) + x.tonight(0) + x.tonight(1) + x.tonight(2) + x.walk() + x.round(0);
        sum += x.service() + x.team(0, 1) + x.lasts(0, 1) + x.soon(0, 1) + x.change(0) + x.guests(0, 1) + x.cover(1);
        sum += x.pilgrim(0) + x.will(0, 60) + x.strength(0, 60) + x.saved() + x.grace() + x.easiest(0) + x.forlorn();
        sum += x.nearest(0) + x.law(3) + x.schisms() + x.odds(4, 0) + x.lies(0) + x.dented(1, 1, true) + x.held(1, 1, false);
        sum += (x.untell(0) ? 1 : 0) + x.later(1) + x.rows(1) + x.sure(1, 1) + x.ask(0, 1) + x.image(0) + x.back(0);
        return sum + x.about(12);
    }
}
