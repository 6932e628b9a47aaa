import java.util.function.ToIntFunction;

/** The edges of tape and text: promises 2 to 5, and each limit that the document's terms set for a chapel. */
public final class TextEdgesTest extends Checks {
    private static final int BLANKS = 0x20202020;

    public static void main(String[] args) {
        TextEdgesTest t = new TextEdgesTest();
        t.feedFillsTheTape();
        t.feedPutsTheHighestFirst();
        t.endCuts();
        t.textOfAllBytes();
        t.eachByteAlone();
        t.wordsAreAsLongAsCanBe();
        t.numbersAreAsLongAsCanBe();
        t.noLetterBehindNumber();
        t.blanksPartOrNot();
        t.ownWordsAreNoNames();
        t.numbersThatCanBe();
        t.whatIsNotTold();
        t.mostOfEachSort();
        t.onceEach();
        t.orderWithinLines();
        t.namesOfTheirSort();
        t.unitsInOne();
        t.unitsOfEachJoin();
        t.unitsInAll();
        t.bracketsWithin();
        t.notsWithin();
        t.bothWithin();
        t.faultsByTheirPlace();
        t.faultsAtOnePlace();
        t.faultsAtTheEnd();
        t.latestFaultAlone();
        t.close("TextEdgesTest");
    }

    private FaithfulStools stands(String text, int stools) {
        FaithfulStools x = new FaithfulStools();
        due("4 chapel of " + text, tell(x, text), stools);
        due("5 no fault of " + text, x.fault(0), 0);
        due("5 no place of " + text, x.fault(1), -1);
        return x;
    }

    /** 2: NONE, and nothing comes, if there would be more than 1,600. */
    private void feedFillsTheTape() {
        for (int over = 0; over <= 20; over++) {
            FaithfulStools x = new FaithfulStools();
            due("2 empty at first", x.about(10), 0);
            for (int i = 1; i <= 79; i++) {
                due("2 how many there are", x.feed(BLANKS, BLANKS, BLANKS, BLANKS, BLANKS), 20 * i);
            }
            x.end(1560 + over);
            due("2 how many there are", x.feed(BLANKS, BLANKS, BLANKS, BLANKS, BLANKS), 1580 + over);
            int last = x.feed(BLANKS, BLANKS, BLANKS, BLANKS, BLANKS);
            due("2 twenty more than " + (1580 + over), last, over == 0 ? 1600 : -1);
            due("2 how many then", x.about(10), over == 0 ? 1600 : 1580 + over);
        }
        FaithfulStools x = new FaithfulStools();
        for (int i = 0; i < 80; i++) {
            x.feed(BLANKS, BLANKS, BLANKS, BLANKS, BLANKS);
        }
        // "saves 42;" does not come, so the text is of blanks still.
        due("2 full", x.feed(0x73617665, 0x73203432, 0x3b202020, BLANKS, BLANKS), -1);
        due("2 nothing comes", x.about(10), 1600);
        due("4 blanks", x.chapel(), 0);
        due("4 blanks tell nothing", x.about(2), 7);
        due("2 from the first again", x.feed(0x73617665, 0x73203432, 0x3b202020, BLANKS, BLANKS), 20);
        due("4 chapel", x.chapel(), 0);
        due("4 saves", x.about(2), 42);
    }

    private void feedPutsTheHighestFirst() {
        int[] signs = {0x24202020, 0x20242020, 0x20202420, 0x20202024};
        for (int number = 0; number < 5; number++) {
            for (int at = 0; at < 4; at++) {
                int[] five = {BLANKS, BLANKS, BLANKS, BLANKS, BLANKS};
                five[number] = signs[at];
                FaithfulStools x = new FaithfulStools();
                x.feed(five[0], five[1], five[2], five[3], five[4]);
                due("4 a dollar is no token", x.chapel(), -1);
                due("2 its place", x.fault(1), 4 * number + at);
            }
        }
        FaithfulStools x = new FaithfulStools();
        due("2 lowest and highest", x.feed(LOW, HIGH, -1, 0, 1), 20);
        due("4 no token", x.chapel(), -1);
        due("4 no token", x.fault(0), 1);
    }

    /** 3: NONE, doing nothing, if it has not so many, or n is below 0. */
    private void endCuts() {
        FaithfulStools x = new FaithfulStools();
        due("3 nothing of nothing", x.end(0), 0);
        due("3 one of nothing", x.end(1), -1);
        due("3 below 0", x.end(-1), -1);
        x.feed(0x73617665, 0x73203432, 0x3b202020, BLANKS, BLANKS);
        for (int none : new int[] {-1, 21, 1600, LOW, HIGH}) {
            due("3 end(" + none + ")", x.end(none), -1);
            due("3 nothing is done", x.about(10), 20);
        }
        due("3 all", x.end(20), 20);
        due("3 fewer", x.end(9), 9);
        due("3 what was cut is gone", x.end(10), -1);
        due("2 behind those that are left", x.feed(0x636f6c64, 0x2035353b, BLANKS, BLANKS, BLANKS), 29);
        due("4 chapel", x.chapel(), 0);
        due("3 the first ones", x.about(2), 42);
        due("2 those behind", x.about(3), 55);
        due("3 the tape is empty then", x.end(1), -1);
        x.feed(BLANKS, BLANKS, BLANKS, BLANKS, BLANKS);
        due("3 none at all", x.end(0), 0);
        due("3 none at all", x.about(10), 0);
    }

    /** At most 1,600 bytes, and each of them counts. */
    private void textOfAllBytes() {
        String blanks = " ".repeat(1600);
        due("4 the last byte", stands(blanks.substring(9) + "saves 42;", 0).about(2), 42);
        fault(blanks.substring(1) + "$", 1, 1599);
        fault("\n".repeat(1592) + "saves 42", 2, 1600);
        fault("a".repeat(1600), 1, 0);
        fault("1".repeat(1600), 1, 0);
        fault("(".repeat(1600), 2, 0);
        fault("bears " + "(".repeat(1594), 2, 13);
        fault("bears " + "not".repeat(531), 1, 6);
        fault("bears 1" + "+1".repeat(796), 2, 66);
        fault(";".repeat(1600), 2, 0);
        StringBuilder many = new StringBuilder();
        for (int i = 0; i < 200; i++) {
            many.append("draw 7;\n");
        }
        fault(many.toString(), 2, 8);
        // The longest words that may be, in a text that is just full.
        String full = "hearth abcdefgh at 0099 heavy 0099 room 0005 warm 0009;stool abcdefgh at 0099 strong 0099 creed 0003 dent 0099;";
        FaithfulStools x = stands(full + " ".repeat(1600 - full.length() - 10) + "draw 0999;", 1);
        due("4 the full text's last line", x.about(5), 999);
        due("4 the full text's first line", x.hearth(0, 2), 5);
    }

    private void eachByteAlone() {
        for (int b = 0; b < 256; b++) {
            char c = (char) b;
            boolean blank = c == ' ' || c == '\n';
            boolean token = c >= 'a' && c <= 'z' || c >= '0' && c <= '9' || ";()<>=+-*/%".indexOf(c) >= 0;
            if (blank) {
                stands(String.valueOf(c), 0);
                stands("saves 5;" + c, 0);
                stands("saves" + c + "5" + c + ";", 0);
            } else {
                fault(String.valueOf(c), token ? 2 : 1, 0);
                fault("saves 5;" + c, token ? 2 : 1, 8);
                if (c != ';') {
                    fault("cold 5 " + c, token ? 2 : 1, 7);
                }
            }
        }
    }

    private void wordsAreAsLongAsCanBe() {
        String letters = "abcdefghijklmnopqrstuvwxyz".repeat(3);
        for (int n = 1; n <= 70; n++) {
            String word = letters.substring(0, n);
            if (n <= 8) {
                stands("hearth " + word + " at 1 heavy 1;stool " + word + " at 1 strong 1;", 1);
                fault(word, 2, 0);
            } else {
                fault("hearth " + word + " at 1 heavy 1;", 1, 7);
                fault("stool " + word + " at 1 strong 1;", 1, 6);
                fault(word, 1, 0);
            }
        }
        // Words that begin or end as an own one are others.
        fault("save 1;", 2, 0);
        fault("savess 1;", 2, 0);
        fault("asaves 1;", 2, 0);
        fault("savessave 1;", 1, 0);
        fault("saves1saves 1;", 1, 5);
        fault("bears 1and 1;", 1, 6);
        fault("bears notnot 1;", 2, 6);
        fault("bears daynotnot 1;", 1, 6);
    }

    private void numbersAreAsLongAsCanBe() {
        due("4 one digit", stands("draw 9;", 0).about(5), 9);
        due("4 two digits", stands("draw 09;", 0).about(5), 9);
        due("4 three digits", stands("draw 009;", 0).about(5), 9);
        due("4 four digits", stands("draw 0009;", 0).about(5), 9);
        for (int n = 5; n <= 30; n++) {
            fault("draw " + "0".repeat(n - 1) + "9;", 1, 5);
            fault("bears " + "9".repeat(n) + ";", 1, 6);
        }
        // 2^32 + 9 and 2^64 + 9 would be 9, if digits were taken on and on.
        fault("draw 4294967305;", 1, 5);
        fault("draw 18446744073709551625;", 1, 5);
        fault("draw 9 9;", 2, 7);
        stands("bears 9999;", 0);
    }

    private void noLetterBehindNumber() {
        for (char c = 'a'; c <= 'z'; c++) {
            fault("draw 9" + c, 1, 5);
            fault("draw 9999" + c + ";", 1, 5);
            fault("draw 9 " + c, 2, 7);
            fault("draw 9\n" + c, 2, 7);
        }
        fault("hearth a at 1heavy 1;", 1, 12);
        fault("bears 1or 2;", 1, 6);
        // No letter of ours: that is a byte of its own behind a whole number.
        fault("draw 9A", 1, 6);
        fault("draw 9_", 1, 6);
        fault("draw 9\u00e4", 1, 6);
        // A number behind a letter is fine.
        stands("stool a at1 strong1 creed1 dent1;", 1);
        fault("stool a at1strong1;", 1, 10);
    }

    private void blanksPartOrNot() {
        FaithfulStools x = stands("hearth a at1 heavy2 room3 warm4;stool b at5 strong6 creed2 dent8;bears(heavy+2)*3;saves9;cold10;draw11;", 1);
        FaithfulStools y = stands("\n\nhearth\n a \n at 1\nheavy 2 room\n\n3 warm 4 ; stool b at 5 strong 6 creed 2 dent 8\n;\n bears ( heavy + 2 ) * 3 ;"
            + " saves 9 ; cold 10 ; draw 11 ; \n", 1);
        for (int what = 0; what <= 12; what++) {
            due("4 about(" + what + ") without blanks", x.about(what), y.about(what));
        }
        for (int what = 0; what <= 5; what++) {
            due("4 hearth without blanks", x.hearth(0, what), y.hearth(0, what));
            due("4 stool without blanks", x.stool(0, what), y.stool(0, what));
        }
        x.send(0, 0);
        due("4 bears without blanks", x.load(0), 12);
        fault("saves\t9;", 1, 5);
        fault("saves\r9;", 1, 5);
        fault("saves\u000b9;", 1, 5);
        fault("saves\u00a09;", 1, 5);
        fault("sa ves 9;", 2, 0);
        fault("hearth a b at 1 heavy 1;", 2, 9);
    }

    /** Words that stand for themselves here are no NAMES. */
    private void ownWordsAreNoNames() {
        due("terms: nineteen own words", Model.OWN_WORDS.size(), 19);
        for (String word : Model.OWN_WORDS) {
            fault("hearth " + word + " at 1 heavy 1;", 2, 7);
            fault("stool " + word + " at 1 strong 1;", 2, 6);
            String longer = word + "x";
            String shorter = word.substring(0, word.length() - 1);
            stands("hearth " + longer + " at 1 heavy 1;hearth " + shorter + " at 1 heavy 1;", 0);
            stands("stool " + longer + " at 1 strong 1;stool " + shorter + " at 1 strong 1;", 2);
        }
        // Words that the document has, but no text.
        stands("stool name at 1 strong 1;stool none at 1 strong 1;stool evening at 1 strong 1;stool load at 1 strong 1;stool e at 1 strong 1;", 5);
    }

    /** 4: a number that can't be, at its place; all others are as told, with noughts ahead of them too. */
    private void numbersThatCanBe() {
        ranged("hearth a at # heavy 1;", 0, 99, x -> x.hearth(0, 0));
        ranged("hearth a at 1 heavy #;", 0, 99, x -> x.hearth(0, 1));
        ranged("hearth a at 1 heavy 1 room #;", 1, 5, x -> x.hearth(0, 2));
        ranged("hearth a at 1 heavy 1 warm #;", 0, 9, x -> x.hearth(0, 3));
        ranged("hearth a at 1 heavy 1 room 5 warm #;", 0, 9, x -> x.hearth(0, 3));
        ranged("stool a at # strong 1;", 0, 99, x -> x.stool(0, 0));
        ranged("stool a at 1 strong #;", 0, 99, x -> x.stool(0, 1));
        ranged("stool a at 1 strong 1 creed #;", 0, 3, x -> x.stool(0, 2));
        ranged("stool a at 1 strong 1 dent #;", 0, 99, x -> x.stool(0, 3));
        ranged("stool a at 1 strong 1 creed 3 dent #;", 0, 99, x -> x.stool(0, 3));
        ranged("saves #;", 1, 99, x -> x.about(2));
        ranged("cold #;", 0, 100, x -> x.about(3));
        ranged("draw #;", 0, 999, x -> x.about(5));
    }

    private void ranged(String line, int least, int most, ToIntFunction<FaithfulStools> told) {
        int place = line.indexOf('#');
        for (int n = 0; n <= 9999; n = n == 1010 ? 9999 : n + 1) {
            String plain = line.replace("#", String.valueOf(n));
            String noughts = line.replace("#", String.format("%04d", n));
            if (n >= least && n <= most) {
                int stools = line.startsWith("stool") ? 1 : 0;
                due("terms: told by " + plain, told.applyAsInt(stands(plain, stools)), n);
                due("terms: told by " + noughts, told.applyAsInt(stands(noughts, stools)), n);
            } else {
                fault(plain, 4, place);
                fault(noughts, 4, place);
            }
        }
    }

    private void whatIsNotTold() {
        FaithfulStools x = stands("hearth a at 9 heavy 9;hearth b at 9 heavy 9 room 4;hearth c at 9 heavy 9 warm 4;"
            + "stool a at 9 strong 9;stool b at 9 strong 9 creed 3;stool c at 9 strong 9 dent 4;", 3);
        int[][] hearths = {{9, 9, 1, 0}, {9, 9, 4, 0}, {9, 9, 1, 4}};
        int[][] stools = {{9, 9, 0, 0}, {9, 9, 3, 0}, {9, 9, 0, 4}};
        for (int i = 0; i < 3; i++) {
            for (int what = 0; what < 4; what++) {
                due("terms: hearth " + i + " " + what, x.hearth(i, what), hearths[i][what]);
                due("terms: stool " + i + " " + what, x.stool(i, what), stools[i][what]);
            }
            due("2 no evenings at first", x.stool(i, 4), 0);
            due("2 sent nowhere at first", x.stool(i, 5), -1);
        }
        due("terms: saves", x.about(2), 7);
        due("terms: cold", x.about(3), 0);
        due("terms: draw", x.about(5), 0);
        due("2 day at first", x.about(4), 0);
    }

    private static String lines(String sort, int count, String rest) {
        StringBuilder b = new StringBuilder();
        for (int i = 0; i < count; i++) {
            b.append(sort).append(' ').append((char) ('a' + i)).append(rest);
        }
        return b.toString();
    }

    /** 6 HEARTHS, 5 STOOLS at most; one too many: at the line's first word. */
    private void mostOfEachSort() {
        for (int n = 0; n <= 9; n++) {
            String hearths = lines("hearth", n, " at 1 heavy 1;\n");
            String stools = lines("stool", n, " at 1 strong 1;\n");
            if (n <= 6) {
                due("terms: hearths", stands(hearths, 0).about(1), n);
            } else {
                fault(hearths, 2, 6 * 23);
            }
            if (n <= 5) {
                due("terms: stools", stands(stools, n).about(0), n);
            } else {
                fault(stools, 2, 5 * 23);
            }
        }
        String full = lines("hearth", 6, " at 1 heavy 1;") + lines("stool", 5, " at 1 strong 1;");
        FaithfulStools x = stands(full, 5);
        due("terms: six and five", x.about(1), 6);
        fault(full + "hearth", 2, full.length());
        fault(full + "stool", 2, full.length());
        fault(full + " \nstool a at 100", 2, full.length() + 2);
        fault(full + "hearth a", 2, full.length());
        stands(full + "saves 1;", 5);
    }

    private void onceEach() {
        String[] all = {"bears 1;", "wears 1;", "saves 1;", "cold 1;", "draw 1;"};
        String together = String.join("", all);
        stands(together, 0);
        stands("draw 1;cold 1;saves 1;wears 1;bears 1;", 0);
        for (String line : all) {
            String word = line.substring(0, line.indexOf(' '));
            fault(together + word, 2, together.length());
            fault(together + " " + line, 2, together.length() + 1);
            fault(line + word + " 1000000", 2, line.length());
            fault(line + word + " $", 2, line.length());
            fault(line + lines("hearth", 1, " at 1 heavy 1;") + word, 2, line.length() + 22);
        }
    }

    private void orderWithinLines() {
        fault("hearth a heavy 1 at 1;", 2, 9);
        fault("hearth a at 1 room 1 heavy 1;", 2, 14);
        fault("hearth a at 1 heavy 1 warm 1 room 1;", 2, 29);
        fault("hearth a at 1 heavy 1 room 1 room 1;", 2, 29);
        fault("hearth a at 1 heavy 1 dent 1;", 2, 22);
        fault("hearth a at 1 strong 1;", 2, 14);
        fault("stool a at 1 heavy 1;", 2, 13);
        fault("stool a at 1 strong 1 dent 1 creed 1;", 2, 29);
        fault("stool a at 1 strong 1 creed 1 creed 1;", 2, 30);
        fault("stool a at 1 strong 1 warm 1;", 2, 22);
        fault("stool a at 1 strong 1 stool b at 1 strong 1;", 2, 22);
        fault("at 1;", 2, 0);
        fault("heavy 1;", 2, 0);
        fault("a;", 2, 0);
        fault("1;", 2, 0);
        fault("saves (1);", 2, 6);
        fault("saves 1+1;", 2, 7);
        fault("saves heavy;", 2, 6);
        fault("saves -1;", 2, 6);
    }

    private void namesOfTheirSort() {
        stands("hearth a at 1 heavy 1;stool a at 1 strong 1;", 1);
        fault("hearth a at 1 heavy 1;stool a at 1 strong 1;hearth a at 1 heavy 1;", 3, 51);
        fault("hearth a at 1 heavy 1;stool a at 1 strong 1;stool a at 1 strong 1;", 3, 50);
        // The first and the last that may be are looked at, too.
        String six = lines("hearth", 5, " at 1 heavy 1;");
        String five = lines("stool", 4, " at 1 strong 1;");
        for (char c = 'a'; c <= 'e'; c++) {
            fault(six + "hearth " + c, 3, six.length() + 7);
        }
        for (char c = 'a'; c <= 'd'; c++) {
            fault(five + "stool " + c, 3, five.length() + 6);
        }
        stands("stool a at 1 strong 1;stool aa at 1 strong 1;stool aaaaaaaa at 1 strong 1;stool aaaaaaab at 1 strong 1;stool baaaaaaa at 1 strong 1;", 5);
        fault("stool aaaaaaaa at 1 strong 1;stool aaaaaaaa", 3, 35);
        // A text that stood does not bind the next.
        FaithfulStools x = stands("hearth a at 1 heavy 1;stool b at 1 strong 1;", 1);
        due("4 told anew", tell(x, "hearth a at 1 heavy 1;stool b at 1 strong 1;"), 1);
        tell(x, "hearth c at 1 heavy 1; saves 5; bears 1; saves");
        due("4 told behind a fault", tell(x, "hearth c at 1 heavy 1;saves 5;bears 1;"), 0);
    }

    private static String sumOf(int units) {
        return "1" + "+1".repeat(units - 1);
    }

    /** 30 units in one e; a unit too many: at its first TOKEN. */
    private void unitsInOne() {
        for (String word : new String[] {"bears ", "wears "}) {
            for (int n = 1; n <= 40; n++) {
                if (n <= 30) {
                    due("45 units", stands(word + sumOf(n) + ";", 0).about(11), n);
                } else {
                    fault(word + sumOf(n) + ";", 2, 6 + 60);
                }
            }
            // A bracket is a unit, and so is what stands in it; a not is none.
            due("45 units", stands(word + sumOf(28) + "+(1);", 0).about(11), 30);
            fault(word + sumOf(29) + "+(1);", 2, 6 + 59);
            fault(word + sumOf(30) + "+(1);", 2, 6 + 60);
            fault(word + "(" + sumOf(30) + ");", 2, 6 + 1 + 58);
            due("45 units", stands(word + sumOf(29) + " or not not not 1;", 0).about(11), 30);
            fault(word + sumOf(30) + " or not 1;", 2, 6 + 59 + 8);
            fault(word + sumOf(30) + " and 1;", 2, 6 + 59 + 5);
            fault(word + sumOf(30) + "=1;", 2, 6 + 60);
            fault(word + sumOf(30) + "*heavy;", 2, 6 + 60);
            fault(word + sumOf(30) + "+;", 2, 6 + 60);
            due("45 units", stands(word + sumOf(22) + "+(((((((1)))))));", 0).about(11), 30);
            fault(word + sumOf(23) + "+(((((((1)))))));", 2, 6 + 46 + 7);
        }
    }

    /** Whatever joins them, the thirty-first is the one too many. */
    private void unitsOfEachJoin() {
        for (String join : new String[] {" or ", " and ", "+", "-", "*", "/", "%"}) {
            String thirty = "1" + (join + "1").repeat(29);
            due("45 thirty", stands("bears " + thirty + ";", 0).about(11), 30);
            fault("bears " + thirty + join + "1;", 2, 6 + thirty.length() + join.length());
            fault("bears " + thirty + join + ";", 2, 6 + thirty.length() + join.length());
            String in = "(1" + (join + "1").repeat(28) + ")";
            due("45 thirty", stands("wears " + in + ";", 0).about(11), 30);
            fault("wears (" + thirty + ");", 2, 6 + thirty.length());
        }
    }

    /** 60 units in all. */
    private void unitsInAll() {
        String thirty = sumOf(30);
        due("45 sixty", stands("bears " + thirty + ";wears " + thirty + ";", 0).about(11), 60);
        due("45 sixty", stands("wears " + thirty + ";bears " + thirty + ";", 0).about(11), 60);
        due("45 thirty-one", stands("wears 1;bears " + thirty + ";", 0).about(11), 31);
        fault("bears " + thirty + ";wears " + sumOf(31) + ";", 2, 66 + 66);
        fault("wears " + thirty + ";bears " + sumOf(31) + ";", 2, 66 + 66);
        fault("wears 1;bears " + sumOf(31) + ";", 2, 8 + 66);
        // Units of a text that stood before, or had a fault, are none of the next.
        FaithfulStools x = stands("bears " + thirty + ";wears " + thirty + ";", 0);
        due("4 anew", tell(x, "bears " + thirty + ";wears " + thirty + ";"), 0);
        tell(x, "bears " + thirty + ";wears " + sumOf(31) + ";");
        due("4 behind a fault", tell(x, "bears " + thirty + ";wears " + thirty + ";"), 0);
        due("45 sixty", x.about(11), 60);
        due("4 none", tell(x, ""), 0);
        due("45 no units", x.about(11), 0);
    }

    /** A unit ( e ) within 6 others at most: at its first TOKEN. */
    private void bracketsWithin() {
        for (int n = 1; n <= 12; n++) {
            String text = "bears " + "(".repeat(n) + "1" + ")".repeat(n) + ";";
            if (n <= 7) {
                due("45 units", stands(text, 0).about(11), n + 1);
            } else {
                fault(text, 2, 6 + 7);
            }
        }
        stands("bears (((((((1)))))))+(((((((1)))))));", 0);
        stands("bears 1+(1+(1+(1+(1+(1+(1+(1+1)))))));", 0);
        fault("bears 1+(1+(1+(1+(1+(1+(1+(1+(1))))))));", 2, 29);
        fault("bears (((((((1))))))));", 2, 21);
        fault("bears (((((((1))))));", 2, 20);
        fault("bears ((((((()))))));", 2, 13);
    }

    /** A one behind not within 6 others at most: at the not. */
    private void notsWithin() {
        for (int n = 1; n <= 12; n++) {
            String text = "wears " + "not ".repeat(n) + "1;";
            if (n <= 7) {
                due("45 units", stands(text, 0).about(11), 1);
            } else {
                fault(text, 2, 6 + 28);
            }
        }
        String seven = "not ".repeat(7) + "1";
        stands("wears " + seven + " or " + seven + " and " + seven + ";", 0);
        fault("wears " + seven + " or not " + seven + ";", 2, 6 + 29 + 4 + 28);
        fault("wears not;", 2, 9);
        fault("wears not or 1;", 2, 10);
        fault("wears 1 not 1;", 2, 8);
        fault("wears 1+not 1;", 2, 8);
        fault("wears 1=not 1;", 2, 8);
    }

    private void bothWithin() {
        stands("bears not(not(not(not 1)));", 0);
        fault("bears not(not(not(not(not 1))));", 2, 21);
        fault("bears (not(not(not(not 1))));", 2, 19);
        stands("bears (not(not(not(1))));", 0);
        fault("bears (not(not(not((1)))));", 2, 19);
        stands("bears ((((((not 1))))));", 0);
        fault("bears (((((((not 1)))))));", 2, 13);
        stands("bears not not not not not not(1);", 0);
        fault("bears not not not not not not not(1);", 2, 33);
        // Not reaches over a whole relation, so the bracket behind the sign stands within it, too.
        fault("bears not not not not not not not 1=(1);", 2, 36);
        stands("bears not not not not not not 1=(1);", 0);
        // But not over the and or or behind it.
        stands("bears not not not not not not not 1 and (1);", 0);
        stands("bears not not not not not not not 1 or (((((((1)))))));", 0);
    }

    /** The first by its place. */
    private void faultsByTheirPlace() {
        fault("saves 100; $", 4, 6);
        fault("saves 1; $ saves 100;", 1, 9);
        fault("hearth a at 100 heavy 100;", 4, 12);
        fault("hearth a at 1 heavy 1; hearth a at 100 heavy 1;", 3, 30);
        fault("hearth a at 100 heavy 1; hearth a at 1 heavy 1;", 4, 12);
        fault("saves 1; saves 100;", 2, 9);
        fault("saves 100 saves", 4, 6);
        fault("saves 1 saves 100", 2, 8);
        fault("bears 1 $ ; saves 100;", 1, 8);
        fault("bears ; saves 100;", 2, 6);
        fault("saves 1", 2, 7);
    }

    /** At one place the least: what is no TOKEN is no word, name or number that can't be, either. */
    private void faultsAtOnePlace() {
        fault("hearth abcdefghi", 1, 7);
        fault("saves 10000;", 1, 6);
        fault("saves saves;", 2, 6);
        fault("saves 100a;", 1, 6);
        fault("saves a100;", 2, 6);
        fault("100;", 2, 0);
        fault("10000;", 1, 0);
        fault("saves 1; abcdefghi", 1, 9);
        fault("saves 1 10000", 1, 8);
        fault("saves 1 100", 2, 8);
        fault("bears " + sumOf(30) + "+10000;", 1, 66);
        fault("bears " + sumOf(30) + "+$;", 1, 66);
        fault("bears " + "(".repeat(7) + "$", 1, 13);
        fault("bears " + "(".repeat(7) + "notnotnot 1", 1, 13);
        // A NAME told already where none can stand is one that can't stand there.
        fault("hearth a at 1 heavy 1; a", 2, 23);
        fault("hearth a at 1 heavy 1; hearth b a", 2, 32);
        // The seventh hearth of a name that is told: at its line's first word, which comes ahead of the name.
        fault(lines("hearth", 6, " at 1 heavy 1;") + "hearth a at 1 heavy 1;", 2, 132);
    }

    /** The end: the text's length, blanks and all. */
    private void faultsAtTheEnd() {
        String text = "hearth a at 12 heavy 34 room 2 warm 3;stool b at 56 strong 78 creed 1 dent 90;bears not(1+heavy*2)<3 and 4 or 5;saves 6;";
        String[] tokens = {"hearth", " a", " at", " 12", " heavy", " 34", " room", " 2", " warm", " 3", ";", "stool", " b", " at", " 56", " strong",
            " 78", " creed", " 1", " dent", " 90", ";", "bears", " not", "(", "1", "+", "heavy", "*", "2", ")", "<", "3", " and", " 4", " or", " 5", ";",
            "saves", " 6", ";"};
        StringBuilder b = new StringBuilder();
        for (String token : tokens) {
            b.append(token);
            for (String blanks : new String[] {"", " ", "\n", " \n  "}) {
                String cut = b + blanks;
                if (token.equals(";")) {
                    stands(cut, cut.contains("stool") ? 1 : 0);
                } else {
                    fault(cut, 2, cut.length());
                }
            }
        }
        due("terms: all tokens", b.toString().equals(text) ? 1 : 0, 1);
    }

    /** 5: of the latest chapel(). */
    private void latestFaultAlone() {
        FaithfulStools x = new FaithfulStools();
        due("5 at first", x.fault(0), 0);
        due("5 at first", x.fault(1), -1);
        tell(x, "saves 100;");
        due("5 fault", x.fault(0), 4);
        due("5 place", x.fault(1), 6);
        x.feed(BLANKS, BLANKS, 0x24202020, BLANKS, BLANKS);
        due("5 till the next chapel()", x.fault(0), 4);
        x.chapel();
        due("5 fault", x.fault(0), 1);
        due("5 place", x.fault(1), 8);
        for (int none : new int[] {-1, 2, LOW, HIGH}) {
            due("5 another what", x.fault(none), -1);
        }
        tell(x, "");
        due("5 no fault", x.fault(0), 0);
        due("5 no place", x.fault(1), -1);
        tell(x, "$");
        due("5 place 0", x.fault(1), 0);
    }
}
