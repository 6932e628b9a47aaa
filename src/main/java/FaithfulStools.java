import java.util.Arrays;

/** A chapel whose faithful are footstools: told in a text, sent to hearths, worn by evenings, asked about. */
public final class FaithfulStools {
    public static final int NONE = -1;

    /** Answers where -1 already means "nowhere". */
    private static final int NO_SUCH = -2;
    private static final int NO_ROWS = -3;
    private static final int MOST_AHEAD = 60;
    private static final int LAST_DAY = 999;
    private static final int BOXES = 3;
    private static final int MOST_HEAVIER = 99;
    private static final int MOST_ODDS = 4;

    private final Tape tape;
    private final Reader reader;
    private Chapel told;
    /** Read into, so that a faulty text leaves what was told as it is. */
    private Chapel draft;
    private final State now;
    /** A scratch copy of now, for what lies ahead. */
    private final State ahead;
    private final History history;
    private final int[] boxes;
    private final boolean[] kept;
    private final Sendings sendings;
    private final Guests pair;
    private final Memory memory;
    /** Scratch: the hearths at which each stool could count alone, as bits. */
    private final int[] couldAt;
    private final int[] lying;
    private int lyingCount;
    private int faultFound;
    private int faultPlace;

    public FaithfulStools() {
        reader = new Reader();
        tape = reader.lexer.tape;
        told = new Chapel();
        draft = new Chapel();
        now = new State();
        ahead = new State();
        history = new History();
        boxes = new int[BOXES * State.CELLS];
        kept = new boolean[BOXES];
        sendings = new Sendings();
        pair = new Guests();
        memory = new Memory();
        couldAt = new int[Chapel.MOST_STOOLS];
        lying = new int[Chapel.MOST_STOOLS];
        lyingCount = 0;
        faultFound = 0;
        faultPlace = NONE;
        now.begin(told);
        history.begin(now);
    }

    // ---- the text ----

    public int feed(int a, int b, int c, int d, int e) {
        if (!tape.hasRoomFor(20)) {
            return NONE;
        }
        tape.put(a);
        tape.put(b);
        tape.put(c);
        tape.put(d);
        tape.put(e);
        return tape.size;
    }

    public int end(int n) {
        if (n < 0 || n > tape.size) {
            return NONE;
        }
        tape.size = n;
        return n;
    }

    public int chapel() {
        boolean fine = reader.readInto(draft);
        tape.size = 0;
        faultFound = reader.lexer.fault;
        faultPlace = reader.lexer.place;
        if (!fine) {
            return NONE;
        }
        Chapel older = told;
        told = draft;
        draft = older;
        now.begin(told);
        history.begin(now);
        memory.forget();
        lyingCount = 0;
        for (int box = 0; box < BOXES; box++) {
            kept[box] = false;
        }
        return told.stools;
    }

    public int fault(int what) {
        switch (what) {
            case 0:
                return faultFound;
            case 1:
                return faultPlace;
            default:
                return NONE;
        }
    }

    // ---- what is so ----

    public int hearth(int hearth, int what) {
        if (!told.hasHearth(hearth)) {
            return NONE;
        }
        switch (what) {
            case 0:
                return told.hearthAt[hearth];
            case 1:
                return told.heavy[hearth];
            case 2:
                return told.room[hearth];
            case 3:
                return told.warm[hearth];
            case 4:
                return now.setAt(hearth);
            case 5:
                return told.quarrelIn(now.setAt(hearth)) ? 1 : 0;
            default:
                return NONE;
        }
    }

    public int stool(int stool, int what) {
        if (!told.hasStool(stool)) {
            return NO_SUCH;
        }
        switch (what) {
            case 0:
                return told.stoolAt[stool];
            case 1:
                return now.strength[stool];
            case 2:
                return told.creed[stool];
            case 3:
                return now.dent[stool];
            case 4:
                return now.evenings[stool];
            case 5:
                return now.sent[stool];
            case 6:
                return now.isSaved(told, stool) ? 1 : 0;
            default:
                return NO_SUCH;
        }
    }

    public int load(int stool) {
        if (!isSent(stool)) {
            return NONE;
        }
        int hearth = now.sent[stool];
        return told.loadOf(now, stool, hearth, Integer.bitCount(now.setAt(hearth)), 0);
    }

    public int tonight(int what) {
        switch (what) {
            case 0:
                return now.counting(told, 0);
            case 1:
                return now.breaking(told);
            case 2:
                return now.quarrelling(told);
            default:
                return NONE;
        }
    }

    public int walk() {
        int way = 0;
        for (int stool = 0; stool < told.stools; stool++) {
            if (isSent(stool)) {
                way += told.wayOf(stool, now.sent[stool]);
            }
        }
        return way;
    }

    public int saved() {
        return now.savedBits(told);
    }

    public int about(int what) {
        switch (what) {
            case 0:
                return told.stools;
            case 1:
                return told.hearths;
            case 2:
                return told.saves;
            case 3:
                return told.cold;
            case 4:
                return now.day;
            case 5:
                return now.seed;
            case 6:
                return history.done;
            case 7:
                return history.undone;
            case 8:
                return memory.size;
            case 9:
                return memory.time;
            case 10:
                return tape.size;
            case 11:
                return told.bears.units + told.wears.units;
            case 12:
                return lyingCount;
            default:
                return NONE;
        }
    }

    // ---- acts ----

    public int send(int stool, int hearth) {
        if (!told.hasStool(stool) || !told.hasHearth(hearth)) {
            return NO_SUCH;
        }
        int from = now.sent[stool];
        if (from == hearth || !hasRoomNow(hearth)) {
            return NO_SUCH;
        }
        now.sent[stool] = hearth;
        history.add(now);
        return from;
    }

    public int call(int stool) {
        if (!isSent(stool)) {
            return NONE;
        }
        int from = now.sent[stool];
        now.sent[stool] = NONE;
        history.add(now);
        return from;
    }

    public int evening() {
        if (now.day >= LAST_DAY) {
            return NONE;
        }
        int cold = now.drawCold(told);
        now.passEvening(told, cold);
        history.add(now);
        return cold;
    }

    public boolean undo() {
        return history.stepBack(now);
    }

    public boolean redo() {
        return history.stepOn(now);
    }

    public int image(int box) {
        if (box < 0 || box >= BOXES) {
            return NONE;
        }
        now.keepIn(boxes, box * State.CELLS);
        kept[box] = true;
        return now.day;
    }

    public int back(int box) {
        if (box < 0 || box >= BOXES || !kept[box]) {
            return NONE;
        }
        now.takeFrom(boxes, box * State.CELLS);
        history.begin(now);
        return now.day;
    }

    // ---- sendings ----

    public int round(int what) {
        if (what < 0 || what > 1) {
            return NONE;
        }
        sendings.find(told, now, false);
        layDownSending();
        return what == 0 ? sendings.counting : sendings.way;
    }

    public int service() {
        lyingCount = 0;
        if (!sendings.find(told, now, true)) {
            return NONE;
        }
        layDownSending();
        return sendings.way;
    }

    public int team(int hearth, int what) {
        if (!told.hasHearth(hearth) || what < 0 || what > 1) {
            return NONE;
        }
        int best = 0;
        for (int set = 1; set < 1 << told.stools; set++) {
            boolean fewer = best == 0 || Integer.bitCount(set) < Integer.bitCount(best);
            if (fewer && wouldAllCount(hearth, set)) {
                best = set;
            }
        }
        if (best == 0) {
            return NONE;
        }
        return what == 0 ? Integer.bitCount(best) : best;
    }

    public int change(int what) {
        if (what < 0 || what > 2) {
            return NONE;
        }
        int most = Integer.bitCount(now.counting(told, 0));
        int first = NONE;
        int other = NONE;
        for (int one = 0; one < told.stools; one++) {
            for (int two = one + 1; two < told.stools; two++) {
                int counting = countingExchanged(one, two);
                if (counting > most) {
                    most = counting;
                    first = one;
                    other = two;
                }
            }
        }
        if (first == NONE || what == 0) {
            return first;
        }
        return what == 1 ? other : most;
    }

    public int guests(int stool, int other) {
        lyingCount = 0;
        if (!told.hasStool(stool) || !told.hasStool(other) || stool == other || told.hearths == 0) {
            return NONE;
        }
        int rests = pair.findRests(told, now, stool, other);
        if (rests > 0) {
            lying[0] = pair.firstPlace;
            lying[1] = pair.otherPlace;
            lyingCount = 2;
        }
        return rests;
    }

    public int lies(int i) {
        return i >= 0 && i < lyingCount ? lying[i] : NO_SUCH;
    }

    // ---- hearths and who could kneel there ----

    public int cover(int what) {
        if (what < 0 || what > 1) {
            return NONE;
        }
        findWhereEachCould();
        int best = (1 << told.hearths) - 1;
        for (int set = 0; set < 1 << told.hearths; set++) {
            if (Integer.bitCount(set) < Integer.bitCount(best) && coversAll(set)) {
                best = set;
            }
        }
        return what == 0 ? Integer.bitCount(best) : best;
    }

    public int easiest(int stool) {
        if (!told.hasStool(stool)) {
            return NONE;
        }
        int best = NONE;
        int least = 0;
        for (int hearth = 0; hearth < told.hearths; hearth++) {
            int borne = told.loadOf(now, stool, hearth, 1, 0);
            if (borne <= now.strength[stool] && (best == NONE || borne < least)) {
                best = hearth;
                least = borne;
            }
        }
        return best;
    }

    public int forlorn() {
        int bits = 0;
        for (int hearth = 0; hearth < told.hearths; hearth++) {
            if (told.bearing(now, hearth, told.allStools(), 1, 0) == 0) {
                bits |= 1 << hearth;
            }
        }
        return bits;
    }

    public int nearest(int stool) {
        if (!told.hasStool(stool)) {
            return NONE;
        }
        int best = NONE;
        for (int hearth = 0; hearth < told.hearths; hearth++) {
            boolean nearer = best == NONE || told.wayOf(stool, hearth) < told.wayOf(stool, best);
            if (nearer && hasRoomNow(hearth)) {
                best = hearth;
            }
        }
        return best;
    }

    public int pilgrim(int stool) {
        if (!told.hasStool(stool)) {
            return NONE;
        }
        if (told.hearths == 0) {
            return 0;
        }
        int low = told.hearthAt[0];
        int high = told.hearthAt[0];
        for (int hearth = 1; hearth < told.hearths; hearth++) {
            low = Math.min(low, told.hearthAt[hearth]);
            high = Math.max(high, told.hearthAt[hearth]);
        }
        int at = told.stoolAt[stool];
        // On a street, going to the nearer end first and then to the other one passes all.
        return Math.min(Math.abs(at - low), Math.abs(at - high)) + high - low;
    }

    public int law(int n) {
        if (n < -MOST_HEAVIER || n > MOST_HEAVIER) {
            return NONE;
        }
        return Integer.bitCount(now.counting(told, n));
    }

    public int schisms() {
        int twos = 0;
        for (int one = 0; one < told.stools; one++) {
            for (int two = one + 1; two < told.stools; two++) {
                if (told.creed[one] != told.creed[two]) {
                    twos++;
                }
            }
        }
        return twos;
    }

    public int odds(int n, int part) {
        if (n < 0 || n > MOST_ODDS || part < 0 || part > 1) {
            return NONE;
        }
        int upper = 1;
        int lower = 1;
        for (int i = 0; i < n; i++) {
            upper *= 100 - told.cold;
            lower *= 100;
        }
        int common = commonDivisor(upper, lower);
        if (common == 0) {
            return NONE;
        }
        return (part == 0 ? upper : lower) / common;
    }

    // ---- what lies ahead ----

    public int lasts(int stool, int hearth) {
        if (!told.hasStool(stool) || !told.hasHearth(hearth)) {
            return NONE;
        }
        ahead.copy(now);
        for (int n = 0; n <= MOST_AHEAD; n++) {
            if (!ahead.kneel(told, stool, hearth, 1)) {
                return n;
            }
            ahead.day++;
        }
        return NONE;
    }

    public int soon(int stool, int hearth) {
        if (!told.hasStool(stool) || !told.hasHearth(hearth)) {
            return NONE;
        }
        ahead.copy(now);
        for (int n = 0; n <= MOST_AHEAD; n++) {
            if (ahead.isSaved(told, stool)) {
                return n;
            }
            ahead.kneel(told, stool, hearth, 1);
            ahead.day++;
        }
        return NONE;
    }

    public int will(int stool, int n) {
        if (!told.hasStool(stool) || !isAhead(n)) {
            return NONE;
        }
        ahead.copy(now);
        for (int i = 0; i < n; i++) {
            int cold = ahead.drawCold(told);
            ahead.passEvening(told, cold);
        }
        return ahead.evenings[stool];
    }

    public int strength(int stool, int n) {
        if (!told.hasStool(stool) || !isAhead(n)) {
            return NONE;
        }
        ahead.copy(now);
        for (int i = 0; i < n; i++) {
            ahead.passEvening(told, 0);
        }
        return ahead.strength[stool];
    }

    public int grace() {
        ahead.copy(now);
        for (int n = 0; n <= MOST_AHEAD; n++) {
            if (ahead.savedBits(told) == told.allStools()) {
                return n;
            }
            ahead.passEvening(told, 0);
        }
        return NONE;
    }

    // ---- where the first one knelt ----

    public int dented(int evening, int dent, boolean is) {
        return told.stools == 0 ? NONE : memory.tell(evening, true, dent, is);
    }

    public int held(int evening, int strong, boolean is) {
        return told.stools == 0 ? NONE : memory.tell(evening, false, strong, is);
    }

    public boolean untell(int felt) {
        return memory.takeBack(felt);
    }

    public int later(int by) {
        return memory.goOn(by);
    }

    public int rows(int k) {
        return memory.tallyRows(told, k);
    }

    public int sure(int evening, int k) {
        if (evening < 1 || evening > Memory.EVENINGS) {
            return NO_ROWS;
        }
        int all = memory.tallyRows(told, k);
        if (all == 0) {
            return NO_ROWS;
        }
        for (int place = 0; place <= told.hearths; place++) {
            if (memory.tally[evening - 1][place] == all) {
                return place == told.hearths ? NONE : place;
            }
        }
        return NO_SUCH;
    }

    public int ask(int what, int k) {
        if (what < 0 || what > 1 || memory.tallyRows(told, k) == 0) {
            return NONE;
        }
        int best = 1;
        for (int evening = 2; evening <= Memory.EVENINGS; evening++) {
            if (memory.mostLeft(evening) < memory.mostLeft(best)) {
                best = evening;
            }
        }
        return what == 0 ? best : memory.mostLeft(best);
    }

    // ---- helpers of the face ----

    private boolean isSent(int stool) {
        return told.hasStool(stool) && told.hasHearth(now.sent[stool]);
    }

    private boolean hasRoomNow(int hearth) {
        return Integer.bitCount(now.setAt(hearth)) < told.room[hearth];
    }

    private boolean isAhead(int n) {
        return n >= 0 && n <= MOST_AHEAD;
    }

    private void layDownSending() {
        lyingCount = told.stools;
        System.arraycopy(sendings.places, 0, lying, 0, lyingCount);
    }

    private boolean wouldAllCount(int hearth, int set) {
        int many = Integer.bitCount(set);
        return many <= told.room[hearth]
            && !told.quarrelIn(set)
            && told.bearing(now, hearth, set, many, 0) == set;
    }

    private int countingExchanged(int one, int two) {
        ahead.copy(now);
        ahead.sent[one] = now.sent[two];
        ahead.sent[two] = now.sent[one];
        return Integer.bitCount(ahead.counting(told, 0));
    }

    private void findWhereEachCould() {
        for (int stool = 0; stool < told.stools; stool++) {
            couldAt[stool] = 0;
            for (int hearth = 0; hearth < told.hearths; hearth++) {
                if (told.bearing(now, hearth, 1 << stool, 1, 0) != 0) {
                    couldAt[stool] |= 1 << hearth;
                }
            }
        }
    }

    private boolean coversAll(int set) {
        for (int stool = 0; stool < told.stools; stool++) {
            if (couldAt[stool] != 0 && (couldAt[stool] & set) == 0) {
                return false;
            }
        }
        return true;
    }

    private static int commonDivisor(int one, int other) {
        int a = one;
        int b = other;
        // Euclid halves the numbers every two steps, so 64 are enough for ints.
        for (int i = 0; i < 64 && b != 0; i++) {
            int rest = a % b;
            a = b;
            b = rest;
        }
        return a;
    }

    /** The bytes that wait to be the chapel's text. */
    private static final class Tape {
        static final int MOST = 1600;

        final byte[] bytes = new byte[MOST];
        /** MOST at most. */
        int size = 0;

        boolean hasRoomFor(int more) {
            return size + more <= MOST;
        }

        void put(int number) {
            for (int shift = 24; shift >= 0; shift -= 8) {
                if (size >= 0 && size < MOST) {
                    bytes[size] = (byte) (number >>> shift);
                    size++;
                }
            }
        }
    }

    /** Parts the tape into tokens, one at a time, and remembers the first fault. */
    private static final class Lexer {
        // The words by their numbers; heavy to day are the terms of formulas.
        static final int HEAVY = 1;
        static final int MANY = 2;
        static final int WARM = 3;
        static final int DENT = 4;
        static final int STRONG = 5;
        static final int DAY = 6;
        static final int OR = 7;
        static final int AND = 8;
        static final int NOT = 9;
        static final int HEARTH = 10;
        static final int AT = 11;
        static final int ROOM = 12;
        static final int STOOL = 13;
        static final int CREED = 14;
        static final int BEARS = 15;
        static final int WEARS = 16;
        static final int SAVES = 17;
        static final int COLD = 18;
        static final int DRAW = 19;
        // Signs are tokens by their own bytes, 37 to 62.
        static final int NUMBER = 100;
        static final int NAME = 101;
        static final int END = 102;
        static final int BAD = 103;

        static final int NO_TOKEN = 1;
        static final int CANT_STAND = 2;
        static final int TOLD_ALREADY = 3;
        static final int CANT_BE = 4;

        private static final String WORDS =
            "heavy many warm dent strong day or and not hearth at room stool creed bears wears saves cold draw ";
        private static final String SIGNS = ";()<>=+-*/%";
        private static final int MOST_LETTERS = 8;
        /** Letters are digits of this, so that each word of eight at most is a number of its own. */
        private static final int LETTERS = 32;
        private static final int BEFORE_A = 96;
        private static final int MOST_DIGITS = 4;

        final Tape tape = new Tape();
        private final long[] words = new long[DRAW + 1];
        private int behind = 0;
        private int start = 0;
        int token = END;
        /** Of a token that is one. */
        int number = 0;
        long name = 0;
        int fault = 0;
        int place = NONE;

        Lexer() {
            int word = 1;
            for (int i = 0; i < WORDS.length() && word < words.length; i++) {
                char sign = WORDS.charAt(i);
                if (sign == ' ') {
                    word++;
                } else {
                    words[word] = words[word] * LETTERS + (sign - BEFORE_A);
                }
            }
        }

        void begin() {
            behind = 0;
            fault = 0;
            place = NONE;
            advance();
        }

        /** Takes the next token. Bytes from 128 on are below 0 here, and so no sign of any. */
        void advance() {
            byte[] bytes = tape.bytes;
            int at = behind;
            while (at < tape.size && (bytes[at] == ' ' || bytes[at] == '\n')) {
                at++;
            }
            start = at;
            behind = at + 1;
            if (at >= tape.size) {
                token = END;
                behind = at;
            } else if (bytes[at] >= 'a' && bytes[at] <= 'z') {
                takeWord();
            } else if (bytes[at] >= '0' && bytes[at] <= '9') {
                takeNumber();
            } else {
                token = bytes[at] > 0 && SIGNS.indexOf((char) bytes[at]) >= 0 ? bytes[at] : BAD;
            }
        }

        private void takeWord() {
            byte[] bytes = tape.bytes;
            int at = start;
            name = 0;
            while (at < tape.size && bytes[at] >= 'a' && bytes[at] <= 'z') {
                name = name * LETTERS + (bytes[at] - BEFORE_A);
                at++;
            }
            behind = at;
            token = at - start > MOST_LETTERS ? BAD : NAME;
            for (int word = 1; token == NAME && word < words.length; word++) {
                if (words[word] == name) {
                    token = word;
                }
            }
        }

        private void takeNumber() {
            byte[] bytes = tape.bytes;
            int at = start;
            number = 0;
            while (at < tape.size && bytes[at] >= '0' && bytes[at] <= '9') {
                number = number * 10 + (bytes[at] - '0');
                at++;
            }
            behind = at;
            boolean letterBehind = at < tape.size && bytes[at] >= 'a' && bytes[at] <= 'z';
            token = letterBehind || at - start > MOST_DIGITS ? BAD : NUMBER;
        }

        /** Notes the fault at the token at hand; where there is no token at all that is the lesser one. */
        boolean refuse(int found) {
            fault = token == BAD ? NO_TOKEN : found;
            place = start;
            return false;
        }

        /** Goes past a token that must stand here. */
        boolean pass(int wanted) {
            if (token != wanted) {
                return refuse(CANT_STAND);
            }
            advance();
            return true;
        }
    }

    /**
     * A whole formula as a row of codes, operands ahead of what joins them: a number stands for itself,
     * all else is its token below 0.
     */
    private static final class Formula {
        static final int MOST_UNITS = 30;
        static final int MOST_DEEP = 7;
        /** Each unit may stand behind that many nots, and joins fewer than there are units. */
        private static final int MOST_CODES = MOST_UNITS * (MOST_DEEP + 2);

        private final int[] codes = new int[MOST_CODES];
        private final int[] stack = new int[MOST_UNITS];
        private int size = 0;
        int units = 0;

        void clear() {
            size = 0;
            units = 0;
        }

        boolean isTold() {
            return size > 0;
        }

        void add(int code) {
            if (size >= 0 && size < MOST_CODES) {
                codes[size] = code;
                size++;
            }
        }

        /** What comes of it by the terms, which stand at the numbers of their words. */
        int valueBy(int[] terms) {
            int top = 0;
            for (int i = 0; i < size && i < MOST_CODES; i++) {
                int code = codes[i];
                if (code >= -Lexer.DAY) {
                    if (top < MOST_UNITS) {
                        stack[top] = code >= 0 || -code >= terms.length ? code : terms[-code];
                        top++;
                    }
                } else if (code == -Lexer.NOT) {
                    if (top > 0) {
                        stack[top - 1] = stack[top - 1] == 0 ? 1 : 0;
                    }
                } else if (top > 1) {
                    top--;
                    stack[top - 1] = joined(-code, stack[top - 1], stack[top]);
                }
            }
            return top > 0 ? stack[0] : 0;
        }

        private static int joined(int sign, int a, int b) {
            switch (sign) {
                case '+':
                    return a + b;
                case '-':
                    return a - b;
                case '*':
                    return a * b;
                case '/':
                    return b == 0 ? 0 : a / b;
                case '%':
                    return b == 0 ? 0 : a % b;
                case '<':
                    return a < b ? 1 : 0;
                case '>':
                    return a > b ? 1 : 0;
                case '=':
                    return a == b ? 1 : 0;
                case Lexer.AND:
                    return a != 0 && b != 0 ? 1 : 0;
                default:
                    return a != 0 || b != 0 ? 1 : 0;
            }
        }
    }

    /** Reads formulas; depth is how many brackets and nots stand open around. */
    private static final class FormulaReader {
        final Lexer lexer = new Lexer();

        // Each join brings a unit more, so the loops below end at the bound of units.

        private boolean either(Formula into, int depth) {
            boolean fine = both(into, depth);
            for (int i = 0; fine && i < Formula.MOST_UNITS && lexer.token == Lexer.OR; i++) {
                lexer.advance();
                fine = both(into, depth);
                into.add(-Lexer.OR);
            }
            return fine;
        }

        private boolean both(Formula into, int depth) {
            boolean fine = one(into, depth);
            for (int i = 0; fine && i < Formula.MOST_UNITS && lexer.token == Lexer.AND; i++) {
                lexer.advance();
                fine = one(into, depth);
                into.add(-Lexer.AND);
            }
            return fine;
        }

        private boolean one(Formula into, int depth) {
            if (lexer.token != Lexer.NOT) {
                return relation(into, depth);
            }
            if (depth >= Formula.MOST_DEEP) {
                return lexer.refuse(Lexer.CANT_STAND);
            }
            lexer.advance();
            boolean fine = one(into, depth + 1);
            into.add(-Lexer.NOT);
            return fine;
        }

        private boolean relation(Formula into, int depth) {
            if (!sum(into, depth)) {
                return false;
            }
            int sign = lexer.token;
            if (sign != '<' && sign != '>' && sign != '=') {
                return true;
            }
            lexer.advance();
            boolean fine = sum(into, depth);
            into.add(-sign);
            return fine;
        }

        private boolean sum(Formula into, int depth) {
            boolean fine = term(into, depth);
            for (int i = 0; fine && i < Formula.MOST_UNITS && (lexer.token == '+' || lexer.token == '-'); i++) {
                int sign = lexer.token;
                lexer.advance();
                fine = term(into, depth);
                into.add(-sign);
            }
            return fine;
        }

        private boolean term(Formula into, int depth) {
            boolean fine = unit(into, depth);
            for (int i = 0; fine && i < Formula.MOST_UNITS && isTimes(lexer.token); i++) {
                int sign = lexer.token;
                lexer.advance();
                fine = unit(into, depth);
                into.add(-sign);
            }
            return fine;
        }

        private static boolean isTimes(int token) {
            return token == '*' || token == '/' || token == '%';
        }

        private boolean unit(Formula into, int depth) {
            int token = lexer.token;
            boolean named = token >= Lexer.HEAVY && token <= Lexer.DAY;
            boolean nested = token == '(';
            boolean stands = named || nested || token == Lexer.NUMBER;
            // 60 in all need no count of their own: there are two formulas at most.
            if (!stands || into.units >= Formula.MOST_UNITS || nested && depth >= Formula.MOST_DEEP) {
                return lexer.refuse(Lexer.CANT_STAND);
            }
            into.units++;
            if (!nested) {
                into.add(named ? -token : lexer.number);
            }
            lexer.advance();
            return !nested || either(into, depth + 1) && lexer.pass(')');
        }
    }

    /** Reads a chapel's lines. */
    private static final class Reader {
        private static final int MOST_AT = 99;
        private static final int MOST_OF = 99;

        private final FormulaReader formulas = new FormulaReader();
        final Lexer lexer = formulas.lexer;
        private final long[] hearthNames = new long[Chapel.MOST_HEARTHS];
        private final long[] stoolNames = new long[Chapel.MOST_STOOLS];
        /** Words of lines that may be told once, each by the bit of its number. */
        private int toldWords = 0;
        /** The number told last. */
        private int number = 0;

        boolean readInto(Chapel draft) {
            draft.clear();
            toldWords = 0;
            lexer.begin();
            boolean fine = true;
            for (int i = 0; fine && i < Tape.MOST && lexer.token != Lexer.END; i++) {
                fine = line(draft) && lexer.pass(';');
            }
            return fine;
        }

        private boolean line(Chapel draft) {
            // What a refused line leaves in the draft is harmless: a faulty draft is never used.
            boolean fine;
            switch (lexer.token) {
                case Lexer.HEARTH:
                    return hearthLine(draft);
                case Lexer.STOOL:
                    return stoolLine(draft);
                case Lexer.BEARS:
                    return formulaLine(draft.bears);
                case Lexer.WEARS:
                    return formulaLine(draft.wears);
                case Lexer.SAVES:
                    fine = toldOnce(1, 99);
                    draft.saves = number;
                    return fine;
                case Lexer.COLD:
                    fine = toldOnce(0, 100);
                    draft.cold = number;
                    return fine;
                case Lexer.DRAW:
                    fine = toldOnce(0, 999);
                    draft.draw = number;
                    return fine;
                default:
                    return lexer.refuse(Lexer.CANT_STAND);
            }
        }

        private boolean hearthLine(Chapel draft) {
            int hearth = draft.hearths;
            if (hearth < 0 || hearth >= Chapel.MOST_HEARTHS) {
                return lexer.refuse(Lexer.CANT_STAND);
            }
            lexer.advance();
            if (!newName(hearthNames, hearth) || !told(Lexer.AT, 0, MOST_AT)) {
                return false;
            }
            draft.hearthAt[hearth] = number;
            if (!told(Lexer.HEAVY, 0, MOST_OF)) {
                return false;
            }
            draft.heavy[hearth] = number;
            number = 1;
            if (lexer.token == Lexer.ROOM && !told(Lexer.ROOM, 1, Chapel.MOST_ROOM)) {
                return false;
            }
            draft.room[hearth] = number;
            number = 0;
            if (lexer.token == Lexer.WARM && !told(Lexer.WARM, 0, 9)) {
                return false;
            }
            draft.warm[hearth] = number;
            draft.hearths = hearth + 1;
            return true;
        }

        private boolean stoolLine(Chapel draft) {
            int stool = draft.stools;
            if (stool < 0 || stool >= Chapel.MOST_STOOLS) {
                return lexer.refuse(Lexer.CANT_STAND);
            }
            lexer.advance();
            if (!newName(stoolNames, stool) || !told(Lexer.AT, 0, MOST_AT)) {
                return false;
            }
            draft.stoolAt[stool] = number;
            if (!told(Lexer.STRONG, 0, MOST_OF)) {
                return false;
            }
            draft.strong[stool] = number;
            number = 0;
            if (lexer.token == Lexer.CREED && !told(Lexer.CREED, 0, 3)) {
                return false;
            }
            draft.creed[stool] = number;
            number = 0;
            if (lexer.token == Lexer.DENT && !told(Lexer.DENT, 0, MOST_OF)) {
                return false;
            }
            draft.dent[stool] = number;
            draft.stools = stool + 1;
            return true;
        }

        private boolean formulaLine(Formula into) {
            if (into.isTold()) {
                return lexer.refuse(Lexer.CANT_STAND);
            }
            lexer.advance();
            return formulas.either(into, 0);
        }

        private boolean toldOnce(int least, int most) {
            int word = lexer.token;
            if ((toldWords >> word & 1) != 0) {
                return lexer.refuse(Lexer.CANT_STAND);
            }
            toldWords |= 1 << word;
            return told(word, least, most);
        }

        /** Reads a word with its number. */
        private boolean told(int word, int least, int most) {
            if (lexer.token != word) {
                return lexer.refuse(Lexer.CANT_STAND);
            }
            lexer.advance();
            if (lexer.token != Lexer.NUMBER) {
                return lexer.refuse(Lexer.CANT_STAND);
            }
            number = lexer.number;
            if (number < least || number > most) {
                return lexer.refuse(Lexer.CANT_BE);
            }
            lexer.advance();
            return true;
        }

        private boolean newName(long[] names, int count) {
            if (lexer.token != Lexer.NAME || count >= names.length) {
                return lexer.refuse(Lexer.CANT_STAND);
            }
            for (int i = 0; i < count; i++) {
                if (names[i] == lexer.name) {
                    return lexer.refuse(Lexer.TOLD_ALREADY);
                }
            }
            names[count] = lexer.name;
            lexer.advance();
            return true;
        }
    }

    /** What a text tells, and what follows from it for a state. */
    private static final class Chapel {
        static final int MOST_HEARTHS = 6;
        static final int MOST_STOOLS = 5;
        static final int MOST_ROOM = 5;
        private static final int MOST_LOAD = 999;

        final int[] hearthAt = new int[MOST_HEARTHS];
        final int[] heavy = new int[MOST_HEARTHS];
        final int[] room = new int[MOST_HEARTHS];
        final int[] warm = new int[MOST_HEARTHS];
        final int[] stoolAt = new int[MOST_STOOLS];
        final int[] strong = new int[MOST_STOOLS];
        final int[] creed = new int[MOST_STOOLS];
        final int[] dent = new int[MOST_STOOLS];
        final Formula bears = new Formula();
        final Formula wears = new Formula();
        /** Scratch: the terms of the formulas, each at its word's number. */
        private final int[] terms = new int[Lexer.DAY + 1];
        int hearths = 0;
        int stools = 0;
        int saves = 7;
        int cold = 0;
        int draw = 0;

        void clear() {
            hearths = 0;
            stools = 0;
            saves = 7;
            cold = 0;
            draw = 0;
            bears.clear();
            wears.clear();
        }

        boolean hasHearth(int hearth) {
            return hearth >= 0 && hearth < hearths && hearth < MOST_HEARTHS;
        }

        boolean hasStool(int stool) {
            return stool >= 0 && stool < stools && stool < MOST_STOOLS;
        }

        int allStools() {
            return (1 << stools) - 1;
        }

        int wayOf(int stool, int hearth) {
            return hasStool(stool) && hasHearth(hearth) ? Math.abs(stoolAt[stool] - hearthAt[hearth]) : 0;
        }

        boolean quarrelIn(int set) {
            int first = NONE;
            for (int stool = 0; stool < stools; stool++) {
                if ((set >> stool & 1) != 0) {
                    if (first == NONE) {
                        first = creed[stool];
                    } else if (creed[stool] != first) {
                        return true;
                    }
                }
            }
            return false;
        }

        /** LOAD of a stool among many at a hearth that is so much heavier than told. */
        int loadOf(State state, int stool, int hearth, int many, int heavier) {
            if (!hasStool(stool) || !hasHearth(hearth) || many <= 0) {
                return 0;
            }
            setTerms(state, stool, hearth, many, heavier);
            int borne = bears.isTold()
                ? bears.valueBy(terms)
                : (terms[Lexer.HEAVY] + many - 1) / many;
            return Math.max(0, Math.min(MOST_LOAD, borne));
        }

        /** What an evening that counts takes of a stool's strength. */
        int wearOf(State state, int stool, int hearth, int many) {
            if (!hasStool(stool) || !hasHearth(hearth)) {
                return 0;
            }
            setTerms(state, stool, hearth, many, 0);
            int worn = wears.isTold() ? wears.valueBy(terms) : 1;
            return Math.max(0, Math.min(state.strength[stool], worn));
        }

        private void setTerms(State state, int stool, int hearth, int many, int heavier) {
            terms[Lexer.HEAVY] = Math.max(0, heavy[hearth] + heavier);
            terms[Lexer.MANY] = many;
            terms[Lexer.WARM] = warm[hearth];
            terms[Lexer.DENT] = state.dent[stool];
            terms[Lexer.STRONG] = state.strength[stool];
            terms[Lexer.DAY] = state.day;
        }

        /** Those of a set whose load, if so many are at the hearth, is no more than their strength. */
        int bearing(State state, int hearth, int set, int many, int heavier) {
            int bits = 0;
            for (int stool = 0; stool < stools; stool++) {
                boolean within = (set >> stool & 1) != 0;
                if (within && loadOf(state, stool, hearth, many, heavier) <= state.strength[stool]) {
                    bits |= 1 << stool;
                }
            }
            return bits;
        }
    }

    /** What acts change. */
    private static final class State {
        /** Ints that keep one state. */
        static final int CELLS = 4 * Chapel.MOST_STOOLS + 2;
        private static final int MOST = 99;

        final int[] strength = new int[Chapel.MOST_STOOLS];
        final int[] dent = new int[Chapel.MOST_STOOLS];
        final int[] evenings = new int[Chapel.MOST_STOOLS];
        final int[] sent = new int[Chapel.MOST_STOOLS];
        int day = 0;
        int seed = 0;

        void begin(Chapel chapel) {
            System.arraycopy(chapel.strong, 0, strength, 0, Chapel.MOST_STOOLS);
            System.arraycopy(chapel.dent, 0, dent, 0, Chapel.MOST_STOOLS);
            Arrays.fill(evenings, 0);
            Arrays.fill(sent, NONE);
            day = 0;
            seed = chapel.draw;
        }

        void copy(State other) {
            System.arraycopy(other.strength, 0, strength, 0, Chapel.MOST_STOOLS);
            System.arraycopy(other.dent, 0, dent, 0, Chapel.MOST_STOOLS);
            System.arraycopy(other.evenings, 0, evenings, 0, Chapel.MOST_STOOLS);
            System.arraycopy(other.sent, 0, sent, 0, Chapel.MOST_STOOLS);
            day = other.day;
            seed = other.seed;
        }

        void keepIn(int[] cells, int from) {
            if (from < 0 || from > cells.length - CELLS) {
                return;
            }
            int many = Chapel.MOST_STOOLS;
            System.arraycopy(strength, 0, cells, from, many);
            System.arraycopy(dent, 0, cells, from + many, many);
            System.arraycopy(evenings, 0, cells, from + 2 * many, many);
            System.arraycopy(sent, 0, cells, from + 3 * many, many);
            cells[from + 4 * many] = day;
            cells[from + 4 * many + 1] = seed;
        }

        void takeFrom(int[] cells, int from) {
            if (from < 0 || from > cells.length - CELLS) {
                return;
            }
            int many = Chapel.MOST_STOOLS;
            System.arraycopy(cells, from, strength, 0, many);
            System.arraycopy(cells, from + many, dent, 0, many);
            System.arraycopy(cells, from + 2 * many, evenings, 0, many);
            System.arraycopy(cells, from + 3 * many, sent, 0, many);
            day = cells[from + 4 * many];
            seed = cells[from + 4 * many + 1];
        }

        boolean isSaved(Chapel chapel, int stool) {
            return evenings[stool] >= chapel.saves;
        }

        int savedBits(Chapel chapel) {
            int bits = 0;
            for (int stool = 0; stool < chapel.stools; stool++) {
                if (isSaved(chapel, stool)) {
                    bits |= 1 << stool;
                }
            }
            return bits;
        }

        /** Who is sent to a hearth, as bits. */
        int setAt(int hearth) {
            int bits = 0;
            for (int stool = 0; stool < Chapel.MOST_STOOLS; stool++) {
                if (sent[stool] == hearth) {
                    bits |= 1 << stool;
                }
            }
            return bits;
        }

        int counting(Chapel chapel, int heavier) {
            int bits = 0;
            for (int hearth = 0; hearth < chapel.hearths; hearth++) {
                int set = setAt(hearth);
                if (!chapel.quarrelIn(set)) {
                    bits |= chapel.bearing(this, hearth, set, Integer.bitCount(set), heavier);
                }
            }
            return bits;
        }

        int quarrelling(Chapel chapel) {
            int bits = 0;
            for (int hearth = 0; hearth < chapel.hearths; hearth++) {
                int set = setAt(hearth);
                if (chapel.quarrelIn(set)) {
                    bits |= set;
                }
            }
            return bits;
        }

        int breaking(Chapel chapel) {
            int nowhere = setAt(NONE);
            return chapel.allStools() & ~nowhere & ~quarrelling(chapel) & ~counting(chapel, 0);
        }

        /** Draws for each hearth: those that are cold, as bits. */
        int drawCold(Chapel chapel) {
            int bits = 0;
            for (int hearth = 0; hearth < chapel.hearths; hearth++) {
                seed = (seed * 137 + 71) % 1000;
                if (seed % 100 < chapel.cold) {
                    bits |= 1 << hearth;
                }
            }
            return bits;
        }

        /** An evening changes each stool by what is his own alone, so they may go one by one. */
        void passEvening(Chapel chapel, int coldBits) {
            for (int stool = 0; stool < chapel.stools; stool++) {
                int hearth = sent[stool];
                int set = setAt(hearth);
                if (hearth < 0) {
                    rest(chapel, stool);
                } else if ((coldBits >> hearth & 1) == 0 && !chapel.quarrelIn(set)) {
                    kneel(chapel, stool, hearth, Integer.bitCount(set));
                }
            }
            day++;
        }

        void rest(Chapel chapel, int stool) {
            strength[stool] = Math.min(chapel.strong[stool], strength[stool] + 2);
        }

        /** A stool's evening among so many at a warm hearth: whether it counts; it breaks him if not. */
        boolean kneel(Chapel chapel, int stool, int hearth, int many) {
            int borne = chapel.loadOf(this, stool, hearth, many, 0);
            if (borne > strength[stool]) {
                strength[stool] /= 2;
                return false;
            }
            int worn = chapel.wearOf(this, stool, hearth, many);
            evenings[stool] = Math.min(MOST, evenings[stool] + 1);
            dent[stool] = Math.min(MOST, dent[stool] + borne / 5);
            strength[stool] -= worn;
            return true;
        }
    }

    /** The states between the acts that are kept: the one now lies behind those done. */
    private static final class History {
        private static final int MOST = 40;

        private final int[] cells = new int[(MOST + 1) * State.CELLS];
        int done = 0;
        int undone = 0;

        void begin(State now) {
            done = 0;
            undone = 0;
            now.keepIn(cells, 0);
        }

        void add(State now) {
            if (done >= MOST) {
                System.arraycopy(cells, State.CELLS, cells, 0, MOST * State.CELLS);
                done = MOST - 1;
            }
            done++;
            undone = 0;
            now.keepIn(cells, done * State.CELLS);
        }

        boolean stepBack(State now) {
            if (done == 0) {
                return false;
            }
            done--;
            undone++;
            now.takeFrom(cells, done * State.CELLS);
            return true;
        }

        boolean stepOn(State now) {
            if (undone == 0) {
                return false;
            }
            undone--;
            done++;
            now.takeFrom(cells, done * State.CELLS);
            return true;
        }
    }

    /**
     * Finds the best sending hearth by hearth, over the sets of stools that are sent so far. A price holds
     * how many count, the walk and the sending itself as one number, so that the least price is the best
     * of like ones too: all three add up over the hearths.
     */
    private static final class Sendings {
        private static final int SETS = 1 << Chapel.MOST_STOOLS;
        /** Where one is sent is a digit: the first stool's weighs most. */
        private static final int DIGITS = 7;
        private static final int ORDERS = 16807;
        private static final int[] WEIGHTS = {2401, 343, 49, 7, 1};
        private static final int WALK_PRICE = ORDERS;
        /** A walk is at most 5 times 99. */
        private static final int COUNT_PRICE = 500 * WALK_PRICE;
        private static final int NEVER = 1000000000;

        private final int[] least = new int[SETS];
        private final int[] leastBefore = new int[SETS];
        private final int[] prices = new int[SETS];
        private final int[] bearingOf = new int[Chapel.MOST_STOOLS + 1];
        final int[] places = new int[Chapel.MOST_STOOLS];
        int counting = 0;
        int way = 0;

        /** Finds SERVICE, or ROUND: false if there is none. */
        boolean find(Chapel chapel, State state, boolean service) {
            int sets = Math.min(SETS, 1 << chapel.stools);
            Arrays.fill(least, NEVER);
            least[0] = 0;
            for (int hearth = 0; hearth < chapel.hearths; hearth++) {
                priceSets(chapel, state, hearth, sets, service);
                goOnWithHearth(sets);
            }
            int best = NEVER;
            for (int set = 0; set < sets; set++) {
                if (least[set] != NEVER) {
                    best = Math.min(best, least[set] + orderOf(chapel.stools, ~set, chapel.hearths));
                }
            }
            if (best == NEVER) {
                return false;
            }
            unpack(chapel, best);
            return true;
        }

        private void priceSets(Chapel chapel, State state, int hearth, int sets, boolean service) {
            for (int many = 1; many <= chapel.room[hearth] && many < bearingOf.length; many++) {
                bearingOf[many] = chapel.bearing(state, hearth, sets - 1, many, 0);
            }
            prices[0] = service ? NEVER : 0;
            for (int set = 1; set < sets; set++) {
                prices[set] = priceOf(chapel, hearth, set, service);
            }
        }

        private int priceOf(Chapel chapel, int hearth, int set, boolean service) {
            int many = Integer.bitCount(set);
            if (many > chapel.room[hearth] || many >= bearingOf.length) {
                return NEVER;
            }
            int count = chapel.quarrelIn(set) ? 0 : Integer.bitCount(bearingOf[many] & set);
            if (service && count != many) {
                return NEVER;
            }
            int walked = 0;
            for (int stool = 0; stool < chapel.stools; stool++) {
                if ((set >> stool & 1) != 0) {
                    walked += chapel.wayOf(stool, hearth);
                }
            }
            // A service is to be short, however many count.
            int gain = service ? 0 : count * COUNT_PRICE;
            return walked * WALK_PRICE - gain + orderOf(chapel.stools, set, hearth);
        }

        private void goOnWithHearth(int sets) {
            System.arraycopy(least, 0, leastBefore, 0, SETS);
            for (int set = 0; set < sets; set++) {
                least[set] = NEVER;
                for (int here = 0; here <= set; here++) {
                    boolean within = (here & ~set) == 0;
                    if (within && prices[here] != NEVER && leastBefore[set & ~here] != NEVER) {
                        least[set] = Math.min(least[set], leastBefore[set & ~here] + prices[here]);
                    }
                }
            }
        }

        private static int orderOf(int stools, int set, int digit) {
            int order = 0;
            for (int stool = 0; stool < stools && stool < WEIGHTS.length; stool++) {
                if ((set >> stool & 1) != 0) {
                    order += digit * WEIGHTS[stool];
                }
            }
            return order;
        }

        private void unpack(Chapel chapel, int best) {
            int rest = Math.floorMod(best, COUNT_PRICE);
            counting = -Math.floorDiv(best, COUNT_PRICE);
            way = rest / WALK_PRICE;
            int order = rest % WALK_PRICE;
            for (int stool = 0; stool < chapel.stools && stool < WEIGHTS.length; stool++) {
                int digit = order / WEIGHTS[stool] % DIGITS;
                places[stool] = digit < chapel.hearths ? digit : NONE;
            }
        }
    }

    /** Two stools who choose a hearth each. */
    private static final class Guests {
        /** Not to count is worse than any way. */
        private static final int NOT_COUNTING = 1000;

        /** What a hearth is to the first (0) and the other one (1); less is better. */
        private final int[][] alone = new int[2][Chapel.MOST_HEARTHS];
        private final int[][] together = new int[2][Chapel.MOST_HEARTHS];
        int firstPlace = NONE;
        int otherPlace = NONE;

        int findRests(Chapel chapel, State state, int stool, int other) {
            for (int hearth = 0; hearth < chapel.hearths; hearth++) {
                weigh(chapel, state, hearth, stool, other);
            }
            int rests = 0;
            for (int one = 0; one < chapel.hearths; one++) {
                for (int two = 0; two < chapel.hearths; two++) {
                    if (staysAt(0, one, two, chapel.hearths) && staysAt(1, two, one, chapel.hearths)) {
                        if (rests == 0) {
                            firstPlace = one;
                            otherPlace = two;
                        }
                        rests++;
                    }
                }
            }
            return rests;
        }

        private void weigh(Chapel chapel, State state, int hearth, int stool, int other) {
            int both = 1 << stool | 1 << other;
            int onesBearing = chapel.bearing(state, hearth, both, 1, 0);
            boolean peace = chapel.room[hearth] >= 2 && !chapel.quarrelIn(both);
            int bothBearing = peace ? chapel.bearing(state, hearth, both, 2, 0) : 0;
            alone[0][hearth] = worth(chapel, stool, hearth, onesBearing);
            alone[1][hearth] = worth(chapel, other, hearth, onesBearing);
            together[0][hearth] = worth(chapel, stool, hearth, bothBearing);
            together[1][hearth] = worth(chapel, other, hearth, bothBearing);
        }

        private static int worth(Chapel chapel, int stool, int hearth, int bearing) {
            boolean counts = (bearing >> stool & 1) != 0;
            return chapel.wayOf(stool, hearth) + (counts ? 0 : NOT_COUNTING);
        }

        /** Whether no hearth is better for one of the two than his own, the other one's staying so. */
        private boolean staysAt(int side, int own, int others, int hearths) {
            int worthNow = worthAt(side, own, others);
            for (int hearth = 0; hearth < hearths; hearth++) {
                if (worthAt(side, hearth, others) < worthNow) {
                    return false;
                }
            }
            return true;
        }

        private int worthAt(int side, int own, int others) {
            return own == others ? together[side][own] : alone[side][own];
        }
    }

    /** What is felt of the first stool's three evenings, and the rows of places that fit it. */
    private static final class Memory {
        static final int EVENINGS = 3;
        private static final int MOST = 30;
        private static final int MOST_TOLD = 99;
        private static final int MOST_LATER = 1000;
        private static final int MOST_TIME = 100000;

        private final int[] eveningOf = new int[MOST];
        private final boolean[] ofDent = new boolean[MOST];
        private final int[] bound = new int[MOST];
        private final boolean[] isSo = new boolean[MOST];
        private final int[] toldAt = new int[MOST];
        /** NONE while it is not untold. */
        private final int[] untoldAt = new int[MOST];
        int size = 0;
        int time = 0;
        // What all that counts leaves of each evening's dent and strength.
        private final int[] leastDent = new int[EVENINGS];
        private final int[] mostDent = new int[EVENINGS];
        private final int[] leastStrength = new int[EVENINGS];
        private final int[] mostStrength = new int[EVENINGS];
        /** Rows by evening and place there; nowhere stands behind the hearths. */
        final int[][] tally = new int[EVENINGS][Chapel.MOST_HEARTHS + 1];
        private final State lone = new State();

        void forget() {
            size = 0;
        }

        int tell(int evening, boolean dent, int much, boolean is) {
            if (evening < 1 || evening > EVENINGS || much < 0 || much > MOST_TOLD || size >= MOST) {
                return NONE;
            }
            int felt = size;
            eveningOf[felt] = evening;
            ofDent[felt] = dent;
            bound[felt] = much;
            isSo[felt] = is;
            toldAt[felt] = time;
            untoldAt[felt] = NONE;
            size++;
            return felt;
        }

        boolean takeBack(int felt) {
            if (felt < 0 || felt >= size || felt >= MOST || untoldAt[felt] != NONE) {
                return false;
            }
            untoldAt[felt] = time;
            return true;
        }

        int goOn(int by) {
            if (by < 0 || by > MOST_LATER || time + by > MOST_TIME) {
                return NONE;
            }
            time += by;
            return time;
        }

        /** Counts the rows by what is known at k, and fills the tally. */
        int tallyRows(Chapel chapel, int k) {
            if (chapel.stools == 0) {
                return 0;
            }
            gatherBounds(k);
            for (int evening = 0; evening < EVENINGS; evening++) {
                Arrays.fill(tally[evening], 0);
            }
            lone.begin(chapel);
            return rowsFrom(chapel, 0, chapel.strong[0], chapel.dent[0]);
        }

        private void gatherBounds(int k) {
            Arrays.fill(leastDent, 0);
            Arrays.fill(mostDent, MOST_TOLD);
            Arrays.fill(leastStrength, 0);
            Arrays.fill(mostStrength, MOST_TOLD);
            for (int felt = 0; felt < size && felt < MOST; felt++) {
                boolean untold = untoldAt[felt] != NONE && untoldAt[felt] <= k;
                if (toldAt[felt] <= k && !untold) {
                    if (ofDent[felt]) {
                        narrow(leastDent, mostDent, felt);
                    } else {
                        narrow(leastStrength, mostStrength, felt);
                    }
                }
            }
        }

        private void narrow(int[] lows, int[] highs, int felt) {
            int evening = eveningOf[felt] - 1;
            if (evening < 0 || evening >= EVENINGS) {
                return;
            }
            if (isSo[felt]) {
                lows[evening] = Math.max(lows[evening], bound[felt]);
            } else {
                highs[evening] = Math.min(highs[evening], bound[felt] - 1);
            }
        }

        /** Rows of the evenings from this one (0 to 2) on, if he begins it so. */
        private int rowsFrom(Chapel chapel, int evening, int strength, int dent) {
            if (evening >= EVENINGS) {
                return 1;
            }
            int rows = 0;
            for (int place = 0; place <= chapel.hearths && place < tally[evening].length; place++) {
                lone.strength[0] = strength;
                lone.dent[0] = dent;
                lone.day = evening;
                if (place < chapel.hearths) {
                    lone.kneel(chapel, 0, place, 1);
                } else {
                    lone.rest(chapel, 0);
                }
                if (fits(evening)) {
                    int found = rowsFrom(chapel, evening + 1, lone.strength[0], lone.dent[0]);
                    tally[evening][place] += found;
                    rows += found;
                }
            }
            return rows;
        }

        private boolean fits(int evening) {
            int strength = lone.strength[0];
            int dent = lone.dent[0];
            return dent >= leastDent[evening] && dent <= mostDent[evening]
                && strength >= leastStrength[evening] && strength <= mostStrength[evening];
        }

        /** Rows left at the most, if it becomes known where he was in an evening (1 to 3). */
        int mostLeft(int evening) {
            int most = 0;
            if (evening >= 1 && evening <= EVENINGS) {
                for (int place = 0; place < tally[evening - 1].length; place++) {
                    most = Math.max(most, tally[evening - 1][place]);
                }
            }
            return most;
        }
    }
}
