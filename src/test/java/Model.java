import java.util.ArrayList;
import java.util.Arrays;
import java.util.List;
import java.util.Set;
import java.util.TreeMap;
import java.util.function.IntBinaryOperator;

/** The document once more, in the most naive way: by trying everything. The tests compare the class with it. */
final class Model {
    static final Set<String> OWN_WORDS = Set.of("hearth", "at", "heavy", "room", "warm", "stool", "strong", "creed",
        "dent", "bears", "wears", "saves", "cold", "draw", "or", "and", "not", "many", "day");

    interface Node {
        int of(TreeMap<String, Integer> by);
    }

    record Token(String text, int place, boolean bad) {
        boolean isWord() {
            return !bad && !text.isEmpty() && Character.isLetter(text.charAt(0));
        }

        boolean isNumber() {
            return !bad && !text.isEmpty() && Character.isDigit(text.charAt(0));
        }
    }

    static final class Fault extends RuntimeException {
        private static final long serialVersionUID = 1L;
        final int fault;
        final int place;

        Fault(int fault, int place) {
            this.fault = fault;
            this.place = place;
        }
    }

    static final class Hearth {
        String name;
        int at, heavy, room = 1, warm;
    }

    static final class Told {
        String name;
        int at, strong, creed, dent;
    }

    static final class Text {
        List<Hearth> hearths = new ArrayList<>();
        List<Told> stools = new ArrayList<>();
        Node bears, wears;
        int saves = 7, cold, draw, units;
    }

    static final class One {
        int strength, dent, evenings, sent = -1;

        One copy() {
            One c = new One();
            c.strength = strength;
            c.dent = dent;
            c.evenings = evenings;
            c.sent = sent;
            return c;
        }
    }

    static final class World {
        List<One> ones = new ArrayList<>();
        int day, seed;

        World copy() {
            World c = new World();
            for (One o : ones) {
                c.ones.add(o.copy());
            }
            c.day = day;
            c.seed = seed;
            return c;
        }
    }

    record Feeling(int evening, boolean dent, int much, boolean is, int told) {
    }

    // ------------------------------------------------------------ the text

    static List<Token> tokens(byte[] b) {
        List<Token> all = new ArrayList<>();
        String s = new String(b, java.nio.charset.StandardCharsets.ISO_8859_1);
        int i = 0;
        while (i < s.length()) {
            char c = s.charAt(i);
            if (c == ' ' || c == '\n') {
                i++;
                continue;
            }
            int j = i;
            boolean bad = false;
            if (c >= 'a' && c <= 'z') {
                while (j < s.length() && s.charAt(j) >= 'a' && s.charAt(j) <= 'z') {
                    j++;
                }
                bad = j - i > 8;
            } else if (c >= '0' && c <= '9') {
                while (j < s.length() && s.charAt(j) >= '0' && s.charAt(j) <= '9') {
                    j++;
                }
                bad = j - i > 4 || j < s.length() && s.charAt(j) >= 'a' && s.charAt(j) <= 'z';
            } else {
                j++;
                bad = ";()<>=+-*/%".indexOf(c) < 0;
            }
            all.add(new Token(s.substring(i, j), i, bad));
            i = j;
        }
        all.add(new Token("", s.length(), false));
        return all;
    }

    static final class Parser {
        final List<Token> tokens;
        int next = 0;
        final Text out = new Text();
        final List<String> once = new ArrayList<>();
        int unitsHere;

        Parser(byte[] b) {
            tokens = tokens(b);
        }

        Token peek() {
            Token t = tokens.get(next);
            if (t.bad) {
                throw new Fault(1, t.place);
            }
            return t;
        }

        boolean sees(String text) {
            return peek().text.equals(text);
        }

        Fault no() {
            return new Fault(2, peek().place);
        }

        void want(String text) {
            if (!sees(text)) {
                throw no();
            }
            next++;
        }

        int number(int low, int high) {
            Token t = peek();
            if (!t.isNumber()) {
                throw no();
            }
            int n = Integer.parseInt(t.text);
            if (n < low || n > high) {
                throw new Fault(4, t.place);
            }
            next++;
            return n;
        }

        int option(String word, int low, int high, int otherwise) {
            if (!sees(word)) {
                return otherwise;
            }
            next++;
            return number(low, high);
        }

        int after(String word, int low, int high) {
            want(word);
            return number(low, high);
        }

        String name(List<String> known) {
            Token t = peek();
            if (!t.isWord() || OWN_WORDS.contains(t.text)) {
                throw no();
            }
            if (known.contains(t.text)) {
                throw new Fault(3, t.place);
            }
            next++;
            return t.text;
        }

        Text parse() {
            while (!sees("")) {
                line();
                want(";");
            }
            return out;
        }

        void line() {
            String word = peek().text;
            if (word.equals("hearth")) {
                if (out.hearths.size() == 6) {
                    throw no();
                }
                next++;
                Hearth h = new Hearth();
                h.name = name(out.hearths.stream().map(x -> x.name).toList());
                h.at = after("at", 0, 99);
                h.heavy = after("heavy", 0, 99);
                h.room = option("room", 1, 5, 1);
                h.warm = option("warm", 0, 9, 0);
                out.hearths.add(h);
                return;
            }
            if (word.equals("stool")) {
                if (out.stools.size() == 5) {
                    throw no();
                }
                next++;
                Told s = new Told();
                s.name = name(out.stools.stream().map(x -> x.name).toList());
                s.at = after("at", 0, 99);
                s.strong = after("strong", 0, 99);
                s.creed = option("creed", 0, 3, 0);
                s.dent = option("dent", 0, 99, 0);
                out.stools.add(s);
                return;
            }
            if (!Set.of("bears", "wears", "saves", "cold", "draw").contains(word) || once.contains(word)) {
                throw no();
            }
            once.add(word);
            next++;
            switch (word) {
                case "saves" -> out.saves = number(1, 99);
                case "cold" -> out.cold = number(0, 100);
                case "draw" -> out.draw = number(0, 999);
                default -> {
                    unitsHere = 0;
                    Node n = e(0);
                    if (word.equals("bears")) {
                        out.bears = n;
                    } else {
                        out.wears = n;
                    }
                }
            }
        }

        static Node join(Node a, Node b, IntBinaryOperator op) {
            return by -> op.applyAsInt(a.of(by), b.of(by));
        }

        Node e(int within) {
            Node a = both(within);
            while (sees("or")) {
                next++;
                a = join(a, both(within), (x, y) -> x != 0 || y != 0 ? 1 : 0);
            }
            return a;
        }

        Node both(int within) {
            Node a = one(within);
            while (sees("and")) {
                next++;
                a = join(a, one(within), (x, y) -> x != 0 && y != 0 ? 1 : 0);
            }
            return a;
        }

        Node one(int within) {
            if (sees("not")) {
                if (within > 6) {
                    throw no();
                }
                next++;
                Node a = one(within + 1);
                return by -> a.of(by) == 0 ? 1 : 0;
            }
            Node a = sum(within);
            if (sees("<")) {
                next++;
                return join(a, sum(within), (x, y) -> x < y ? 1 : 0);
            }
            if (sees(">")) {
                next++;
                return join(a, sum(within), (x, y) -> x > y ? 1 : 0);
            }
            if (sees("=")) {
                next++;
                return join(a, sum(within), (x, y) -> x == y ? 1 : 0);
            }
            return a;
        }

        Node sum(int within) {
            Node a = term(within);
            while (sees("+") || sees("-")) {
                boolean plus = sees("+");
                next++;
                a = join(a, term(within), plus ? (x, y) -> x + y : (x, y) -> x - y);
            }
            return a;
        }

        Node term(int within) {
            Node a = unit(within);
            while (sees("*") || sees("/") || sees("%")) {
                String sign = peek().text;
                next++;
                Node b = unit(within);
                a = join(a, b, switch (sign) {
                    case "*" -> (x, y) -> x * y;
                    case "/" -> (x, y) -> y == 0 ? 0 : x / y;
                    default -> (x, y) -> y == 0 ? 0 : x % y;
                });
            }
            return a;
        }

        Node unit(int within) {
            Token t = peek();
            boolean term = Set.of("heavy", "many", "warm", "dent", "strong", "day").contains(t.text);
            if (!t.isNumber() && !term && !sees("(") || unitsHere == 30 || out.units == 60) {
                throw no();
            }
            if (sees("(") && within > 6) {
                throw no();
            }
            unitsHere++;
            out.units++;
            next++;
            if (term) {
                return by -> by.get(t.text);
            }
            if (t.isNumber()) {
                int n = Integer.parseInt(t.text);
                return by -> n;
            }
            Node a = e(within + 1);
            want(")");
            return a;
        }
    }

    // ------------------------------------------------------------ the state

    private byte[] tape = new byte[0];
    private Text text = new Text();
    private World now = new World();
    private List<World> past = new ArrayList<>();
    private List<World> future = new ArrayList<>();
    private World[] boxes = new World[3];
    private List<Integer> lying = new ArrayList<>();
    private List<Feeling> felt = new ArrayList<>();
    private List<Integer> untold = new ArrayList<>();
    private int time = 0;
    private int fault = 0;
    private int place = -1;

    int feed(int a, int b, int c, int d, int e) {
        if (tape.length + 20 > 1600) {
            return -1;
        }
        java.nio.ByteBuffer buffer = java.nio.ByteBuffer.allocate(tape.length + 20);
        buffer.put(tape).putInt(a).putInt(b).putInt(c).putInt(d).putInt(e);
        tape = buffer.array();
        return tape.length;
    }

    int end(int n) {
        if (n < 0 || n > tape.length) {
            return -1;
        }
        tape = Arrays.copyOf(tape, n);
        return n;
    }

    int chapel() {
        byte[] b = tape;
        tape = new byte[0];
        try {
            text = new Parser(b).parse();
        } catch (Fault f) {
            fault = f.fault;
            place = f.place;
            return -1;
        }
        fault = 0;
        place = -1;
        now = asTold();
        past.clear();
        future.clear();
        boxes = new World[3];
        lying.clear();
        felt.clear();
        untold.clear();
        return text.stools.size();
    }

    private World asTold() {
        World w = new World();
        for (Told s : text.stools) {
            One o = new One();
            o.strength = s.strong;
            o.dent = s.dent;
            w.ones.add(o);
        }
        w.seed = text.draw;
        return w;
    }

    int fault(int what) {
        return what == 0 ? fault : what == 1 ? place : -1;
    }

    private boolean isHearth(int h) {
        return h >= 0 && h < text.hearths.size();
    }

    private boolean isStool(int s) {
        return s >= 0 && s < text.stools.size();
    }

    private List<Integer> at(World w, int h) {
        List<Integer> who = new ArrayList<>();
        for (int s = 0; s < w.ones.size(); s++) {
            if (w.ones.get(s).sent == h) {
                who.add(s);
            }
        }
        return who;
    }

    private static int bits(List<Integer> who) {
        int b = 0;
        for (int s : who) {
            b |= 1 << s;
        }
        return b;
    }

    private boolean quarrel(World w, int h) {
        return at(w, h).stream().map(s -> text.stools.get(s).creed).distinct().count() > 1;
    }

    private TreeMap<String, Integer> terms(World w, int s, int heavier) {
        One o = w.ones.get(s);
        Hearth h = text.hearths.get(o.sent);
        TreeMap<String, Integer> by = new TreeMap<>();
        by.put("heavy", Math.max(0, h.heavy + heavier));
        by.put("many", at(w, o.sent).size());
        by.put("warm", h.warm);
        by.put("dent", o.dent);
        by.put("strong", o.strength);
        by.put("day", w.day);
        return by;
    }

    private int loadIn(World w, int s, int heavier) {
        TreeMap<String, Integer> by = terms(w, s, heavier);
        int v;
        if (text.bears != null) {
            v = text.bears.of(by);
        } else {
            v = by.get("heavy") / by.get("many");
            if (v * by.get("many") < by.get("heavy")) {
                v++;
            }
        }
        return v < 0 ? 0 : v > 999 ? 999 : v;
    }

    private boolean counts(World w, int s, int heavier) {
        One o = w.ones.get(s);
        return o.sent >= 0 && !quarrel(w, o.sent) && loadIn(w, s, heavier) <= o.strength;
    }

    private boolean breaks(World w, int s) {
        One o = w.ones.get(s);
        return o.sent >= 0 && !quarrel(w, o.sent) && loadIn(w, s, 0) > o.strength;
    }

    private int counting(World w) {
        int n = 0;
        for (int s = 0; s < w.ones.size(); s++) {
            n += counts(w, s, 0) ? 1 : 0;
        }
        return n;
    }

    private boolean saved(World w, int s) {
        return w.ones.get(s).evenings >= text.saves;
    }

    private int way(int s, int h) {
        return Math.abs(text.stools.get(s).at - text.hearths.get(h).at);
    }

    private int walkOf(World w) {
        int n = 0;
        for (int s = 0; s < w.ones.size(); s++) {
            if (w.ones.get(s).sent >= 0) {
                n += way(s, w.ones.get(s).sent);
            }
        }
        return n;
    }

    /** The world behind an evening. */
    private World next(World before, List<Integer> cold, int seed) {
        World after = before.copy();
        for (int s = 0; s < before.ones.size(); s++) {
            One was = before.ones.get(s);
            One is = after.ones.get(s);
            if (was.sent < 0) {
                is.strength = Math.min(text.stools.get(s).strong, was.strength + 2);
            } else if (!cold.contains(was.sent)) {
                if (counts(before, s, 0)) {
                    int load = loadIn(before, s, 0);
                    int wear = text.wears == null ? 1 : text.wears.of(terms(before, s, 0));
                    is.evenings = Math.min(99, was.evenings + 1);
                    is.dent = Math.min(99, was.dent + load / 5);
                    is.strength = was.strength - Math.min(was.strength, Math.max(0, wear));
                } else if (breaks(before, s)) {
                    is.strength = was.strength / 2;
                }
            }
        }
        after.day++;
        after.seed = seed;
        return after;
    }

    private List<Integer> coldOf(World w, int[] seed) {
        List<Integer> cold = new ArrayList<>();
        seed[0] = w.seed;
        for (int h = 0; h < text.hearths.size(); h++) {
            seed[0] = (seed[0] * 137 + 71) % 1000;
            if (seed[0] % 100 < text.cold) {
                cold.add(h);
            }
        }
        return cold;
    }

    int hearth(int h, int what) {
        if (!isHearth(h)) {
            return -1;
        }
        Hearth x = text.hearths.get(h);
        return switch (what) {
            case 0 -> x.at;
            case 1 -> x.heavy;
            case 2 -> x.room;
            case 3 -> x.warm;
            case 4 -> bits(at(now, h));
            case 5 -> quarrel(now, h) ? 1 : 0;
            default -> -1;
        };
    }

    int stool(int s, int what) {
        if (!isStool(s)) {
            return -2;
        }
        One o = now.ones.get(s);
        return switch (what) {
            case 0 -> text.stools.get(s).at;
            case 1 -> o.strength;
            case 2 -> text.stools.get(s).creed;
            case 3 -> o.dent;
            case 4 -> o.evenings;
            case 5 -> o.sent;
            case 6 -> saved(now, s) ? 1 : 0;
            default -> -2;
        };
    }

    int load(int s) {
        return !isStool(s) || now.ones.get(s).sent < 0 ? -1 : loadIn(now, s, 0);
    }

    // ------------------------------------------------------------ acts

    private void act(World after) {
        past.add(now);
        if (past.size() > 40) {
            past.remove(0);
        }
        future.clear();
        now = after;
    }

    int send(int s, int h) {
        if (!isStool(s) || !isHearth(h) || now.ones.get(s).sent == h || at(now, h).size() >= text.hearths.get(h).room) {
            return -2;
        }
        World w = now.copy();
        int from = w.ones.get(s).sent;
        w.ones.get(s).sent = h;
        act(w);
        return from;
    }

    int call(int s) {
        if (!isStool(s) || now.ones.get(s).sent < 0) {
            return -1;
        }
        World w = now.copy();
        int from = w.ones.get(s).sent;
        w.ones.get(s).sent = -1;
        act(w);
        return from;
    }

    int evening() {
        if (now.day >= 999) {
            return -1;
        }
        int[] seed = new int[1];
        List<Integer> cold = coldOf(now, seed);
        act(next(now, cold, seed[0]));
        return bits(cold);
    }

    boolean undo() {
        if (past.isEmpty()) {
            return false;
        }
        future.add(now);
        now = past.remove(past.size() - 1);
        return true;
    }

    boolean redo() {
        if (future.isEmpty()) {
            return false;
        }
        past.add(now);
        now = future.remove(future.size() - 1);
        return true;
    }

    // ------------------------------------------------------------ questions

    int tonight(int what) {
        List<Integer> who = new ArrayList<>();
        for (int s = 0; s < now.ones.size(); s++) {
            int sent = now.ones.get(s).sent;
            boolean is = what == 0 ? counts(now, s, 0) : what == 1 ? breaks(now, s) : sent >= 0 && quarrel(now, sent);
            if (is) {
                who.add(s);
            }
        }
        return what < 0 || what > 2 ? -1 : bits(who);
    }

    int walk() {
        return walkOf(now);
    }

    /** All sendings in their order. */
    private void sendings(World w, int s, List<World> all) {
        if (s == w.ones.size()) {
            all.add(w.copy());
            return;
        }
        for (int h = 0; h < text.hearths.size(); h++) {
            if (at(w, h).size() < text.hearths.get(h).room) {
                w.ones.get(s).sent = h;
                sendings(w, s + 1, all);
                w.ones.get(s).sent = -1;
            }
        }
        sendings(w, s + 1, all);
    }

    private List<World> sendings() {
        World w = now.copy();
        for (One o : w.ones) {
            o.sent = -1;
        }
        List<World> all = new ArrayList<>();
        sendings(w, 0, all);
        return all;
    }

    private void lay(World w) {
        lying.clear();
        for (One o : w.ones) {
            lying.add(o.sent);
        }
    }

    int round(int what) {
        if (what < 0 || what > 1) {
            return -1;
        }
        World best = null;
        for (World w : sendings()) {
            if (best == null || counting(w) > counting(best)
                || counting(w) == counting(best) && walkOf(w) < walkOf(best)) {
                best = w;
            }
        }
        lay(best);
        return what == 0 ? counting(best) : walkOf(best);
    }

    int service() {
        World best = null;
        for (World w : sendings()) {
            boolean serves = true;
            for (int h = 0; h < text.hearths.size(); h++) {
                boolean one = false;
                for (int s : at(w, h)) {
                    one |= counts(w, s, 0);
                    serves &= !breaks(w, s);
                }
                serves &= one && !quarrel(w, h);
            }
            if (serves && (best == null || walkOf(w) < walkOf(best))) {
                best = w;
            }
        }
        lying.clear();
        if (best == null) {
            return -1;
        }
        lay(best);
        return walkOf(best);
    }

    private World only(World from, int set, int h) {
        World w = from.copy();
        for (int s = 0; s < w.ones.size(); s++) {
            w.ones.get(s).sent = (set >> s & 1) == 1 ? h : -1;
        }
        return w;
    }

    int team(int h, int what) {
        if (!isHearth(h) || what < 0 || what > 1) {
            return -1;
        }
        for (int n = 1; n <= text.hearths.get(h).room; n++) {
            for (int set = 1; set < 1 << text.stools.size(); set++) {
                if (Integer.bitCount(set) == n) {
                    World w = only(now, set, h);
                    if (!quarrel(w, h) && counting(w) == n) {
                        return what == 0 ? n : set;
                    }
                }
            }
        }
        return -1;
    }

    private World nextWarm(World w) {
        return next(w, List.of(), w.seed);
    }

    int lasts(int s, int h) {
        if (!isStool(s) || !isHearth(h)) {
            return -1;
        }
        int n = 0;
        for (World w = only(now, 1 << s, h); n < 100 && counts(w, s, 0); w = nextWarm(w)) {
            n++;
        }
        return n > 60 ? -1 : n;
    }

    int soon(int s, int h) {
        if (!isStool(s) || !isHearth(h)) {
            return -1;
        }
        World w = only(now, 1 << s, h);
        for (int n = 0; n <= 60; n++) {
            if (saved(w, s)) {
                return n;
            }
            w = nextWarm(w);
        }
        return -1;
    }

    int change(int what) {
        int best = counting(now);
        int[] answer = null;
        for (int a = 0; a < now.ones.size(); a++) {
            for (int b = a + 1; b < now.ones.size(); b++) {
                World w = now.copy();
                w.ones.get(a).sent = now.ones.get(b).sent;
                w.ones.get(b).sent = now.ones.get(a).sent;
                if (counting(w) > best) {
                    best = counting(w);
                    answer = new int[] {a, b, best};
                }
            }
        }
        return answer == null || what < 0 || what > 2 ? -1 : answer[what];
    }

    /** {counts, way} of the first of two at hearths a and b. */
    private int[] fate(int s, int other, int a, int b) {
        World w = only(now, 1 << s, a);
        w.ones.get(other).sent = b;
        boolean counts = counts(w, s, 0) && !(a == b && text.hearths.get(a).room < 2);
        return new int[] {counts ? 1 : 0, way(s, a)};
    }

    private boolean better(int[] x, int[] y) {
        return x[0] > y[0] || x[0] == y[0] && x[1] < y[1];
    }

    int guests(int s, int other) {
        lying.clear();
        if (!isStool(s) || !isStool(other) || s == other || text.hearths.isEmpty()) {
            return -1;
        }
        int rests = 0;
        int count = text.hearths.size();
        for (int a = 0; a < count; a++) {
            for (int b = 0; b < count; b++) {
                boolean rest = true;
                for (int c = 0; c < count; c++) {
                    rest &= !better(fate(s, other, c, b), fate(s, other, a, b));
                    rest &= !better(fate(other, s, c, a), fate(other, s, b, a));
                }
                if (rest) {
                    if (rests == 0) {
                        lying.add(a);
                        lying.add(b);
                    }
                    rests++;
                }
            }
        }
        return rests;
    }

    private boolean alone(int s, int h) {
        return counts(only(now, 1 << s, h), s, 0);
    }

    int cover(int what) {
        int count = text.hearths.size();
        for (int n = 0; n <= count; n++) {
            for (int set = 0; set < 1 << count; set++) {
                boolean does = Integer.bitCount(set) == n;
                for (int s = 0; s < text.stools.size(); s++) {
                    boolean any = false;
                    boolean one = false;
                    for (int h = 0; h < count; h++) {
                        any |= alone(s, h);
                        one |= alone(s, h) && (set >> h & 1) == 1;
                    }
                    does &= one || !any;
                }
                if (does) {
                    return what == 0 ? n : what == 1 ? set : -1;
                }
            }
        }
        throw new IllegalStateException();
    }

    private int tour(int from, List<Integer> left) {
        int best = left.isEmpty() ? 0 : Integer.MAX_VALUE;
        for (int h : left) {
            List<Integer> rest = new ArrayList<>(left);
            rest.remove((Integer) h);
            int to = text.hearths.get(h).at;
            best = Math.min(best, Math.abs(from - to) + tour(to, rest));
        }
        return best;
    }

    int pilgrim(int s) {
        if (!isStool(s)) {
            return -1;
        }
        List<Integer> all = new ArrayList<>();
        for (int h = 0; h < text.hearths.size(); h++) {
            all.add(h);
        }
        return tour(text.stools.get(s).at, all);
    }

    int will(int s, int n) {
        if (!isStool(s) || n < 0 || n > 60) {
            return -1;
        }
        World w = now;
        for (int i = 0; i < n; i++) {
            int[] seed = new int[1];
            List<Integer> cold = coldOf(w, seed);
            w = next(w, cold, seed[0]);
        }
        return w.ones.get(s).evenings;
    }

    int strength(int s, int n) {
        if (!isStool(s) || n < 0 || n > 60) {
            return -1;
        }
        World w = now;
        for (int i = 0; i < n; i++) {
            w = nextWarm(w);
        }
        return w.ones.get(s).strength;
    }

    private int savedOf(World w) {
        int b = 0;
        for (int s = 0; s < w.ones.size(); s++) {
            b |= saved(w, s) ? 1 << s : 0;
        }
        return b;
    }

    int saved() {
        return savedOf(now);
    }

    int grace() {
        World w = now;
        for (int n = 0; n <= 60; n++) {
            if (Integer.bitCount(savedOf(w)) == w.ones.size()) {
                return n;
            }
            w = nextWarm(w);
        }
        return -1;
    }

    int easiest(int s) {
        int best = -1;
        int least = 1000;
        for (int h = 0; isStool(s) && h < text.hearths.size(); h++) {
            int load = loadIn(only(now, 1 << s, h), s, 0);
            if (alone(s, h) && load < least) {
                least = load;
                best = h;
            }
        }
        return best;
    }

    int forlorn() {
        int b = 0;
        for (int h = 0; h < text.hearths.size(); h++) {
            boolean any = false;
            for (int s = 0; s < text.stools.size(); s++) {
                any |= alone(s, h);
            }
            b |= any ? 0 : 1 << h;
        }
        return b;
    }

    int nearest(int s) {
        int best = -1;
        for (int h = 0; isStool(s) && h < text.hearths.size(); h++) {
            if (at(now, h).size() < text.hearths.get(h).room && (best < 0 || way(s, h) < way(s, best))) {
                best = h;
            }
        }
        return best;
    }

    int law(int n) {
        if (n < -99 || n > 99) {
            return -1;
        }
        int count = 0;
        for (int s = 0; s < now.ones.size(); s++) {
            count += counts(now, s, n) ? 1 : 0;
        }
        return count;
    }

    int schisms() {
        int n = 0;
        for (Told a : text.stools) {
            for (Told b : text.stools) {
                n += a.creed < b.creed ? 1 : 0;
            }
        }
        return n;
    }

    int odds(int n, int part) {
        if (n < 0 || n > 4 || part < 0 || part > 1) {
            return -1;
        }
        java.math.BigInteger up = java.math.BigInteger.valueOf(100 - text.cold).pow(n);
        java.math.BigInteger low = java.math.BigInteger.valueOf(100).pow(n);
        java.math.BigInteger g = up.gcd(low);
        return (part == 0 ? up : low).divide(g).intValueExact();
    }

    int lies(int i) {
        return i >= 0 && i < lying.size() ? lying.get(i) : -2;
    }

    // ------------------------------------------------------------ what is felt

    private int feel(int evening, boolean dent, int much, boolean is) {
        if (evening < 1 || evening > 3 || much < 0 || much > 99 || felt.size() == 30 || text.stools.isEmpty()) {
            return -1;
        }
        felt.add(new Feeling(evening, dent, much, is, time));
        untold.add(null);
        return felt.size() - 1;
    }

    int dented(int evening, int dent, boolean is) {
        return feel(evening, true, dent, is);
    }

    int held(int evening, int strong, boolean is) {
        return feel(evening, false, strong, is);
    }

    boolean untell(int f) {
        if (f < 0 || f >= felt.size() || untold.get(f) != null) {
            return false;
        }
        untold.set(f, time);
        return true;
    }

    int later(int by) {
        if (by < 0 || by > 1000 || time + by > 100000) {
            return -1;
        }
        time += by;
        return time;
    }

    private List<int[]> allRows(int k) {
        List<int[]> rows = new ArrayList<>();
        int count = text.hearths.size();
        if (text.stools.isEmpty()) {
            return rows;
        }
        for (int i = 0; i < (count + 1) * (count + 1) * (count + 1); i++) {
            int[] row = {i % (count + 1), i / (count + 1) % (count + 1), i / (count + 1) / (count + 1)};
            World w = asTold();
            World[] behind = new World[3];
            for (int e = 0; e < 3; e++) {
                w = nextWarm(only(w, 1, row[e] == count ? -1 : row[e]));
                behind[e] = w;
            }
            boolean fits = true;
            for (int f = 0; f < felt.size(); f++) {
                Feeling x = felt.get(f);
                if (x.told <= k && (untold.get(f) == null || untold.get(f) > k)) {
                    One o = behind[x.evening - 1].ones.get(0);
                    fits &= (x.dent ? o.dent : o.strength) >= x.much == x.is;
                }
            }
            if (fits) {
                for (int e = 0; e < 3; e++) {
                    row[e] = row[e] == count ? -1 : row[e];
                }
                rows.add(row);
            }
        }
        return rows;
    }

    int rows(int k) {
        return allRows(k).size();
    }

    int sure(int evening, int k) {
        List<int[]> rows = allRows(k);
        if (rows.isEmpty() || evening < 1 || evening > 3) {
            return -3;
        }
        for (int[] row : rows) {
            if (row[evening - 1] != rows.get(0)[evening - 1]) {
                return -2;
            }
        }
        return rows.get(0)[evening - 1];
    }

    int ask(int what, int k) {
        List<int[]> rows = allRows(k);
        if (rows.isEmpty() || what < 0 || what > 1) {
            return -1;
        }
        int bestEvening = 0;
        int fewest = Integer.MAX_VALUE;
        for (int e = 1; e <= 3; e++) {
            int worst = 0;
            for (int h = -1; h < text.hearths.size(); h++) {
                int n = 0;
                for (int[] row : rows) {
                    n += row[e - 1] == h ? 1 : 0;
                }
                worst = Math.max(worst, n);
            }
            if (worst < fewest) {
                fewest = worst;
                bestEvening = e;
            }
        }
        return what == 0 ? bestEvening : fewest;
    }

    // ------------------------------------------------------------ images

    int image(int box) {
        if (box < 0 || box > 2) {
            return -1;
        }
        boxes[box] = now.copy();
        return now.day;
    }

    int back(int box) {
        if (box < 0 || box > 2 || boxes[box] == null) {
            return -1;
        }
        now = boxes[box].copy();
        past.clear();
        future.clear();
        return now.day;
    }

    int about(int what) {
        return switch (what) {
            case 0 -> text.stools.size();
            case 1 -> text.hearths.size();
            case 2 -> text.saves;
            case 3 -> text.cold;
            case 4 -> now.day;
            case 5 -> now.seed;
            case 6 -> past.size();
            case 7 -> future.size();
            case 8 -> felt.size();
            case 9 -> time;
            case 10 -> tape.length;
            case 11 -> text.units;
            case 12 -> lying.size();
            default -> -1;
        };
    }
}
