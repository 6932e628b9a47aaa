import java.util.function.Consumer;
import java.util.function.ToIntFunction;

/** A call that is refused answers as the document says and leaves all as it was; and so does each question. */
public final class RefusedTest extends Checks {
    private static final int BLANKS = 0x20202020;
    private static final String STREET = "hearth a at 10 heavy 10 room 2 warm 3; hearth b at 30 heavy 7;"
        + "stool x at 0 strong 6; stool y at 20 strong 8 dent 4; stool z at 50 strong 20 creed 1; saves 2; cold 20; draw 8;";

    private final String untouched = Seen.of(busy());

    public static void main(String[] args) {
        RefusedTest t = new RefusedTest();
        t.textIsRefused();
        t.actsAreRefused();
        t.pastIsRefused();
        t.boxesAreRefused();
        t.wrongQuestions();
        t.questionsDoNothing();
        t.emptyRefusesToo();
        t.anewIsAsNew();
        t.close("RefusedTest");
    }

    /** Two are at a, which is full, one was sent to b and that was undone; some is felt, kept, lying and on the tape. */
    private static FaithfulStools busy() {
        FaithfulStools x = told(STREET);
        x.later(5);
        x.send(0, 0);
        x.image(0);
        x.send(1, 0);
        x.evening();
        x.send(2, 1);
        x.undo();
        x.dented(1, 1, true);
        x.later(2);
        x.held(2, 3, false);
        x.untell(0);
        x.image(2);
        x.guests(0, 1);
        x.feed(0x73617665, 0x73203432, 0x3b202020, BLANKS, BLANKS);
        x.end(9);
        return x;
    }

    private void refused(String call, ToIntFunction<FaithfulStools> made, int want) {
        FaithfulStools x = busy();
        due(call, made.applyAsInt(x), want);
        String after = Seen.of(x);
        due(call + " leaves all as it was; now " + after, after.equals(untouched), true);
    }

    private void textIsRefused() {
        for (int none : new int[] {-1, 10, 20, 1600, LOW, HIGH}) {
            refused("3 end " + none, x -> x.end(none), -1);
        }
        for (int none : new int[] {-1, 2, LOW, HIGH}) {
            refused("5 fault " + none, x -> x.fault(none), -1);
        }
        // A fault leaves all but the tape and what fault() tells: both twins have the same one here.
        for (String text : new String[] {"$", "saves 100;", "hearth", "stool a at 1 strong 1; stool a", "hearth a at 1 heavy 1; draw 5; draw 6;"}) {
            FaithfulStools x = busy();
            FaithfulStools y = busy();
            x.end(0);
            y.end(0);
            due("4 fault of " + text, tell(x, text), -1);
            tell(y, "$" + text);
            due("5 place", y.fault(1), 0);
            String one = Seen.of(x).replaceFirst("fault=\\d+ place=\\d+", "");
            String two = Seen.of(y).replaceFirst("fault=\\d+ place=\\d+", "");
            due("4 all stays behind " + text + one + " | " + two, one.equals(two), true);
            due("4 all stays as it was", one.replaceAll("about10=\\d+|chapel=.*", "").equals(
                untouched.replaceFirst("fault=\\d+ place=-\\d+", "").replaceAll("about10=\\d+|chapel=.*", "")), true);
        }
        fullTape();
    }

    private void fullTape() {
        FaithfulStools x = told(STREET);
        FaithfulStools y = told(STREET);
        for (int i = 0; i < 80; i++) {
            x.feed(BLANKS, BLANKS, BLANKS, BLANKS, BLANKS);
            y.feed(BLANKS, BLANKS, BLANKS, BLANKS, BLANKS);
        }
        due("2 more than 1600", x.feed(0x24242424, 1, 2, 3, 4), -1);
        due("2 nothing comes", Seen.of(x).equals(Seen.of(y)), true);
    }

    private void actsAreRefused() {
        for (int none : new int[] {-1, -2, 3, LOW, HIGH}) {
            refused("9 no stool " + none, x -> x.send(none, 1), -2);
            refused("9 no hearth " + none, x -> x.send(2, none), -2);
            refused("10 no stool " + none, x -> x.call(none), -1);
        }
        refused("9 two hearths", x -> x.send(2, 2), -2);
        refused("9 neither", x -> x.send(3, 2), -2);
        refused("9 no room", x -> x.send(2, 0), -2);
        refused("9 he is sent there", x -> x.send(0, 0), -2);
        refused("10 he is sent nowhere", x -> x.call(2), -1);
    }

    private void pastIsRefused() {
        for (int none : new int[] {-1, 0, 4, LOW, HIGH}) {
            refused("36 no evening " + none, x -> x.dented(none, 1, true), -1);
            refused("37 no evening " + none, x -> x.held(none, 1, false), -1);
        }
        for (int none : new int[] {-1, 100, LOW, HIGH}) {
            refused("36 no dent " + none, x -> x.dented(1, none, false), -1);
            refused("37 no strength " + none, x -> x.held(1, none, true), -1);
        }
        refused("38 untold already", x -> x.untell(0) ? 1 : 0, 0);
        for (int none : new int[] {-1, 2, 29, 30, LOW, HIGH}) {
            refused("38 none such " + none, x -> x.untell(none) ? 1 : 0, 0);
        }
        for (int none : new int[] {-1, 1001, LOW, HIGH}) {
            refused("39 another number " + none, x -> x.later(none), -1);
        }
        refused("39 0 later", x -> x.later(0), 7);
    }

    private void boxesAreRefused() {
        for (int none : new int[] {-1, 3, LOW, HIGH}) {
            refused("43 none such " + none, x -> x.image(none), -1);
            refused("44 none such " + none, x -> x.back(none), -1);
        }
        refused("44 nothing was kept", x -> x.back(1), -1);
    }

    private void wrongQuestions() {
        for (int none : new int[] {-1, 3, LOW, HIGH}) {
            refused("6 hearth " + none, x -> x.hearth(none, 0), -1);
            refused("7 stool " + none, x -> x.stool(none, 0), -2);
            refused("8 load " + none, x -> x.load(none), -1);
            refused("14 tonight " + none, x -> x.tonight(none), -1);
            refused("16 round " + none, x -> x.round(none == 3 ? 2 : none), -1);
            refused("18 team " + none, x -> x.team(none, 0), -1);
            refused("18 team what " + none, x -> x.team(0, none == 3 ? 2 : none), -1);
            refused("19 lasts " + none, x -> x.lasts(none, 0), -1);
            refused("19 lasts at " + none, x -> x.lasts(0, none), -1);
            refused("20 soon " + none, x -> x.soon(none, 0), -1);
            refused("20 soon at " + none, x -> x.soon(0, none), -1);
            refused("21 change " + none, x -> x.change(none), -1);
            refused("23 cover " + none, x -> x.cover(none == 3 ? 2 : none), -1);
            refused("24 pilgrim " + none, x -> x.pilgrim(none), -1);
            refused("25 will " + none, x -> x.will(none, 1), -1);
            refused("25 will behind " + none, x -> x.will(0, none == 3 ? 61 : none), -1);
            refused("26 strength " + none, x -> x.strength(none, 1), -1);
            refused("26 strength behind " + none, x -> x.strength(0, none == 3 ? 61 : none), -1);
            refused("29 easiest " + none, x -> x.easiest(none), -1);
            refused("31 nearest " + none, x -> x.nearest(none), -1);
            refused("32 law " + none, x -> x.law(none == 3 ? 100 : none == -1 ? -100 : none), -1);
            refused("34 odds " + none, x -> x.odds(none == 3 ? 5 : none, 0), -1);
            refused("34 odds part " + none, x -> x.odds(0, none == 3 ? 2 : none), -1);
            refused("35 lies " + none, x -> x.lies(none), -2);
            refused("41 sure " + none, x -> x.sure(none == 3 ? 4 : none, 0), -3);
            refused("42 ask " + none, x -> x.ask(none == 3 ? 2 : none, 0), -1);
            refused("45 about " + none, x -> x.about(none == 3 ? 13 : none), -1);
        }
        refused("6 two hearths", x -> x.hearth(2, 0), -1);
        refused("6 another what", x -> x.hearth(0, 6), -1);
        refused("7 another what", x -> x.stool(0, 7), -2);
        refused("41 evening 0", x -> x.sure(0, 0), -3);
    }

    /** 3: nothing is done. */
    private void questionsDoNothing() {
        question("8 load", x -> x.load(0));
        question("15 walk", x -> x.walk());
        question("27 saved", x -> x.saved());
        question("28 grace", x -> x.grace());
        question("30 forlorn", x -> x.forlorn());
        question("33 schisms", x -> x.schisms());
        for (int i = 0; i <= 2; i++) {
            int n = i;
            question("14 tonight", x -> x.tonight(n));
            question("18 team", x -> x.team(n / 2, n % 2));
            question("19 lasts", x -> x.lasts(n, n % 2));
            question("20 soon", x -> x.soon(n, n % 2));
            question("21 change", x -> x.change(n));
            question("23 cover", x -> x.cover(n % 2));
            question("24 pilgrim", x -> x.pilgrim(n));
            question("25 will", x -> x.will(n, 60));
            question("26 strength", x -> x.strength(n, 60));
            question("29 easiest", x -> x.easiest(n));
            question("31 nearest", x -> x.nearest(n));
            question("32 law", x -> x.law(99 * n - 99));
            question("34 odds", x -> x.odds(4, n % 2));
            question("40 rows", x -> x.rows(n));
            question("41 sure", x -> x.sure(n + 1, n));
            question("42 ask", x -> x.ask(n % 2, n));
        }
        // These lay down numbers and do nothing else; guests() lays down what lay there before.
        question("16 round", x -> relaid(x.round(0), x));
        question("16 round", x -> relaid(x.round(1), x));
        question("17 service", x -> relaid(x.service(), x));
        question("22 guests", x -> relaid(x.guests(2, 1), x));
        question("22 guests", x -> relaid(x.guests(1, 1), x));
    }

    private static int relaid(int answer, FaithfulStools x) {
        x.guests(0, 1);
        return answer;
    }

    private void question(String call, ToIntFunction<FaithfulStools> asked) {
        FaithfulStools x = busy();
        int first = asked.applyAsInt(x);
        due(call + " again", asked.applyAsInt(x), first);
        due(call + " does nothing", Seen.of(x).equals(untouched), true);
    }

    /** An object without a text refuses what needs hearths or stools. */
    private void emptyRefusesToo() {
        String made = Seen.of(new FaithfulStools());
        empty(made, x -> due("6 empty", x.hearth(0, 0), -1));
        empty(made, x -> due("7 empty", x.stool(0, 0), -2));
        empty(made, x -> due("8 empty", x.load(0), -1));
        empty(made, x -> due("9 empty", x.send(0, 0), -2));
        empty(made, x -> due("10 empty", x.call(0), -1));
        empty(made, x -> due("12 empty", x.undo(), false));
        empty(made, x -> due("13 empty", x.redo(), false));
        empty(made, x -> due("14 empty", x.tonight(1), 0));
        empty(made, x -> due("15 empty", x.walk(), 0));
        empty(made, x -> due("16 empty", x.round(0), 0));
        empty(made, x -> due("17 empty", x.service(), 0));
        empty(made, x -> due("18 empty", x.team(0, 0), -1));
        empty(made, x -> due("19 empty", x.lasts(0, 0), -1));
        empty(made, x -> due("20 empty", x.soon(0, 0), -1));
        empty(made, x -> due("21 empty", x.change(2), -1));
        empty(made, x -> due("22 empty", x.guests(0, 1), -1));
        empty(made, x -> due("23 empty", x.cover(1), 0));
        empty(made, x -> due("24 empty", x.pilgrim(0), -1));
        empty(made, x -> due("25 empty", x.will(0, 0), -1));
        empty(made, x -> due("26 empty", x.strength(0, 0), -1));
        empty(made, x -> due("27 empty", x.saved(), 0));
        empty(made, x -> due("28 empty", x.grace(), 0));
        empty(made, x -> due("29 empty", x.easiest(0), -1));
        empty(made, x -> due("30 empty", x.forlorn(), 0));
        empty(made, x -> due("31 empty", x.nearest(0), -1));
        empty(made, x -> due("32 empty", x.law(0), 0));
        empty(made, x -> due("33 empty", x.schisms(), 0));
        empty(made, x -> due("34 empty", x.odds(4, 1), 1));
        empty(made, x -> due("35 empty", x.lies(0), -2));
        empty(made, x -> due("36 empty", x.dented(1, 0, true), -1));
        empty(made, x -> due("37 empty", x.held(1, 0, true), -1));
        empty(made, x -> due("38 empty", x.untell(0), false));
        empty(made, x -> due("39 empty", x.later(1001), -1));
        empty(made, x -> due("40 empty", x.rows(0), 0));
        empty(made, x -> due("41 empty", x.sure(1, 0), -3));
        empty(made, x -> due("42 empty", x.ask(1, 0), -1));
        empty(made, x -> due("44 empty", x.back(0), -1));
        empty(made, x -> due("4 empty", x.chapel(), 0));
    }

    private void empty(String made, Consumer<FaithfulStools> call) {
        FaithfulStools x = new FaithfulStools();
        call.accept(x);
        due("1 an empty object stays as it was made", Seen.of(x).equals(made), true);
    }

    /** 4: all as told; what two texts before told, or a faulty one, is gone. */
    private void anewIsAsNew() {
        String sum = "1" + "+1".repeat(20);
        String[] texts = {"", "saves 3; cold 40; draw 77;", "hearth a at 1 heavy 2; stool b at 3 strong 4;", STREET,
            "hearth a at 1 heavy 12 room 5 warm 9; hearth b at 80 heavy 23 room 4 warm 8; hearth c at 3 heavy 34 room 3 warm 7; hearth d at 62 heavy 45 room 2 warm 6;"
                + "hearth e at 5 heavy 56 warm 5; hearth f at 44 heavy 67 room 2 warm 4; stool v at 5 strong 60 creed 3 dent 9;"
                    + "stool w at 14 strong 70 creed 1 dent 8;"
                + "stool x at 33 strong 80 creed 2 dent 7; stool y at 72 strong 90 creed 3 dent 6; stool z at 91 strong 99 creed 1 dent 5;"
                + "bears heavy-warm+dent; wears " + sum + "; saves 9; cold 80; draw 999;",
            "hearth f at 9 heavy 8; hearth e at 7 heavy 6; hearth d at 5 heavy 4; stool z at 3 strong 20; stool y at 1 strong 30; wears 2;"};
        // A shorter formula in the place of a longer one, whose not stood behind its number.
        FaithfulStools shorter = told("bears not 5; wears not 5;");
        tell(shorter, "");
        tell(shorter, "hearth a at 1 heavy 2; stool b at 3 strong 9; bears 5; wears 5;");
        shorter.send(0, 0);
        due("8 by the formula told last", shorter.load(0), 5);
        due("26 by the formula told last", shorter.strength(0, 1), 4);
        for (String first : texts) {
            for (String second : texts) {
                for (String last : texts) {
                    FaithfulStools x = told(first);
                    tell(x, second);
                    due("4 told anew", tell(x, last), told(last).about(0));
                    String fresh = Seen.answers(told(last));
                    due("4 as on a new object: " + last, Seen.answers(x).equals(fresh), true);
                    x = told(first);
                    due("4 a fault", tell(x, second + "$"), -1);
                    tell(x, last);
                    due("4 as on a new object, behind a fault: " + last, Seen.answers(x).equals(fresh), true);
                }
            }
        }
    }
}
