/** Each promise by hand: ordinary inputs, the edges that the document names, wrong inputs. */
public final class PromiseTest extends Checks {
    /** x bears a only with another one, y bears b alone, z of another creed bears both alone. */
    private static final String STREET = "hearth a at 10 heavy 10 room 2 warm 3; hearth b at 30 heavy 7;\n"
        + "stool x at 0 strong 6; stool y at 20 strong 8 creed 0 dent 4; stool z at 50 strong 20 creed 1; saves 2;";
    private static final String DRAWS = "hearth a at 0 heavy 5; hearth b at 0 heavy 9; hearth c at 0 heavy 5;"
        + "stool x at 0 strong 9; stool y at 0 strong 8; stool z at 0 strong 7; cold 30; draw 9;";
    private static final String PAST = "hearth a at 0 heavy 5; hearth b at 0 heavy 50; stool x at 0 strong 9;";

    public static void main(String[] args) {
        PromiseTest t = new PromiseTest();
        t.newObject();
        t.feedAndEnd();
        t.chapelStartsAnew();
        t.faultsOfTokens();
        t.faultsOfLines();
        t.faultsOfFormulas();
        t.chapelsThatStand();
        t.hearthsAndStools();
        t.loads();
        t.formulas();
        t.sendAndCall();
        t.evenings();
        t.coldEvenings();
        t.undoAndRedo();
        t.tonight();
        t.roundAndService();
        t.teams();
        t.lastsAndSoon();
        t.change();
        t.guests();
        t.coverAndTheirLike();
        t.pilgrims();
        t.ahead();
        t.law();
        t.odds();
        t.past();
        t.pastInTwoTimes();
        t.images();
        t.about();
        t.fullTape();
        t.fullChapel();
        t.close("PromiseTest");
    }

    private void newObject() {
        FaithfulStools x = new FaithfulStools();
        for (int what = 0; what <= 12; what++) {
            due("1 about(" + what + ")", x.about(what), what == 2 ? 7 : 0);
        }
        due("1 fault(0)", x.fault(0), 0);
        due("1 fault(1)", x.fault(1), -1);
        due("1 hearth", x.hearth(0, 0), -1);
        due("1 stool", x.stool(0, 0), -2);
        due("1 send", x.send(0, 0), -2);
        due("1 undo", x.undo(), false);
        due("1 redo", x.redo(), false);
        due("1 back", x.back(0), -1);
        due("1 evening", x.evening(), 0);
        due("1 day", x.about(4), 1);
        due("1 undo evening", x.undo(), true);
        due("1 day undone", x.about(4), 0);
        due("1 NONE", FaithfulStools.NONE, -1);
    }

    private void feedAndEnd() {
        FaithfulStools x = new FaithfulStools();
        for (int i = 1; i <= 80; i++) {
            due("2 feed", x.feed(0x20202020, 0x20202020, 0x0a0a0a0a, 0x20202020, 0x20202020), 20 * i);
        }
        due("2 feed too much", x.feed(0, 0, 0, 0, 0), -1);
        due("2 all stays", x.about(10), 1600);
        due("3 end", x.end(1581), 1581);
        due("2 feed just too much", x.feed(0, 0, 0, 0, 0), -1);
        due("3 end not so many", x.end(1582), -1);
        due("3 end below 0", x.end(-1), -1);
        due("3 end low", x.end(LOW), -1);
        due("3 end high", x.end(HIGH), -1);
        due("3 bytes", x.about(10), 1581);
        due("3 end", x.end(1580), 1580);
        due("2 feed just enough", x.feed(0x20202020, 0x20202020, 0x20202020, 0x20202020, 0x20202020), 1600);
        due("4 blanks alone", x.chapel(), 0);
        due("4 tape is empty", x.about(10), 0);
        due("3 end 0", x.end(0), 0);
        // "saves" is 73 61 76 65 73: the highest byte of each number comes first.
        due("2 order", x.feed(0x73617665, 0x73203432, 0x3b202020, 0x20202020, 0x20202020), 20);
        due("4 chapel", x.chapel(), 0);
        due("2 saves", x.about(2), 42);
        due("2 cut", x.feed(0x73617665, 0x73203432, 0x3b2020ff, -1, LOW), 20);
        due("3 cut", x.end(9), 9);
        due("4 chapel of the cut", x.chapel(), 0);
    }

    private void chapelStartsAnew() {
        FaithfulStools x = told(STREET);
        x.later(5);
        x.round(0);
        x.send(0, 0);
        x.send(1, 0);
        x.evening();
        x.undo();
        x.dented(1, 1, true);
        x.image(0);
        due("4 a fault", tell(x, "saves 3; foot"), -1);
        due("4 the fault", x.fault(0), 2);
        due("4 its place", x.fault(1), 9);
        int[] stays = {3, 2, 2, 0, 0, 0, 2, 1, 1, 5, 0, 0, 3};
        for (int what = 0; what < stays.length; what++) {
            due("4 stays " + what, x.about(what), stays[what]);
        }
        due("4 stays sent", x.stool(1, 5), 0);
        due("4 stays kept", x.back(0), 0);
        x.send(2, 1);
        x.evening();
        due("4 anew", tell(x, DRAWS), 3);
        int[] anew = {3, 3, 7, 30, 0, 9, 0, 0, 0, 5, 0, 0, 0};
        for (int what = 0; what < anew.length; what++) {
            due("4 anew " + what, x.about(what), anew[what]);
        }
        due("5 no fault", x.fault(0), 0);
        due("5 no place", x.fault(1), -1);
        due("5 another what", x.fault(2), -1);
        due("5 another what", x.fault(-1), -1);
        for (int s = 0; s < 3; s++) {
            due("4 strength as told", x.stool(s, 1), 9 - s);
            due("4 sent nowhere", x.stool(s, 5), -1);
            due("4 evenings", x.stool(s, 4), 0);
        }
        due("4 box empty", x.back(0), -1);
        due("4 lies nothing", x.lies(0), -2);
        due("4 no undo", x.undo(), false);
        due("4 empty", tell(x, ""), 0);
        due("4 no hearths", x.about(1), 0);
        due("4 saves again 7", x.about(2), 7);
        due("4 cold again 0", x.about(3), 0);
        due("4 seed again 0", x.about(5), 0);
    }

    private void faultsOfTokens() {
        fault("saves 2;\t", 1, 8);
        fault("saves 2;\r", 1, 8);
        fault("\u00e9", 1, 0);
        fault("\u00ff", 1, 0);
        fault("\0", 1, 0);
        fault("saves 2;A", 1, 8);
        fault("saves 12345;", 1, 6);
        fault("saves 00001;", 1, 6);
        fault("saves 1a;", 1, 6);
        fault("saves 1000a", 1, 6);
        fault("hearth a at 1heavy 2;", 1, 12);
        fault("abcdefghi", 1, 0);
        fault("hearth abcdefghi at", 1, 7);
        fault("bears 1 & 2;", 1, 8);
        fault("bears 1 $", 1, 8);
        // What cannot stand comes ahead of what is no token behind it.
        fault("foot $", 2, 0);
        fault("saves saves 12345", 2, 6);
    }

    private void faultsOfLines() {
        fault("hearth", 2, 6);
        fault("hearth  \n", 2, 9);
        fault("hearth 1", 2, 7);
        for (String word : Model.OWN_WORDS) {
            fault("hearth " + word + " at 1", 2, 7);
            fault("stool " + word + " at 1", 2, 6);
        }
        fault("hearth a;", 2, 8);
        fault("hearth a at;", 2, 11);
        fault("hearth a at 100 heavy 100", 4, 12);
        fault("hearth a at 99;", 2, 14);
        fault("hearth a at 9 heavy 100", 4, 20);
        fault("hearth a at 9 heavy 9 room 0", 4, 27);
        fault("hearth a at 9 heavy 9 room 6", 4, 27);
        fault("hearth a at 9 heavy 9 room;", 2, 26);
        fault("hearth a at 9 heavy 9 warm 10", 4, 27);
        fault("hearth a at 9 heavy 9 warm 9 warm 9", 2, 29);
        fault("hearth a at 9 heavy 9 room 5 creed 1", 2, 29);
        fault("hearth a at 9 heavy 9", 2, 21);
        fault("hearth a at 1 heavy 1; hearth a at 1 heavy 1;", 3, 30);
        fault("stool a at 1 strong 1; stool a at 1 strong 1;", 3, 29);
        fault("stool a at 1 heavy 1;", 2, 13);
        fault("stool a at 100", 4, 11);
        fault("stool a at 9 strong 100", 4, 20);
        fault("stool a at 9 strong 9 creed 4", 4, 28);
        fault("stool a at 9 strong 9 dent 100", 4, 27);
        fault("stool a at 9 strong 9 dent 9 creed 1", 2, 29);
        fault("saves 0;", 4, 6);
        fault("saves 100;", 4, 6);
        fault("saves;", 2, 5);
        fault("saves 9", 2, 7);
        fault("saves 9 9", 2, 8);
        fault("cold 101;", 4, 5);
        fault("draw 1000;", 4, 5);
        fault(";", 2, 0);
        fault("saves 9;;", 2, 8);
        for (String line : new String[] {"saves 1;", "cold 1;", "draw 1;", "bears 1;", "wears 1;"}) {
            fault(line + line, 2, line.length());
            fault(line + line.substring(0, 4) + ";", 2, line.length());
        }
        fault(lines("hearth ", 7, " at 1 heavy 1;"), 2, 6 * 22);
        fault(lines("stool ", 6, " at 1 strong 1;"), 2, 5 * 22);
    }

    private static String lines(String word, int count, String rest) {
        StringBuilder b = new StringBuilder();
        for (int i = 0; i < count; i++) {
            b.append(word).append((char) ('a' + i)).append(rest);
        }
        return b.toString();
    }

    private void faultsOfFormulas() {
        fault("bears;", 2, 5);
        fault("bears hearth;", 2, 6);
        fault("bears creed;", 2, 6);
        fault("bears x;", 2, 6);
        fault("bears 1 1;", 2, 8);
        fault("bears -1;", 2, 6);
        fault("bears 1+;", 2, 8);
        fault("bears 1+not 1;", 2, 8);
        fault("bears 1<2>3;", 2, 9);
        fault("bears (1;", 2, 8);
        fault("bears 1);", 2, 7);
        fault("bears ();", 2, 7);
        fault("bears 1 or;", 2, 10);
        fault("bears 1 and or 1;", 2, 12);
        fault("bears (((((((( 1))))))));", 2, 13);
        fault("bears ((((((( not 1)))))));", 2, 14);
        fault("bears not not not not not not not not 1;", 2, 34);
        fault("bears not not not not not not not (1);", 2, 34);
        fault("bears not(not(not(not 1 or (not 1))));", 2, 28);
        fault("bears not(not(not(not (1))));", 2, 22);
        // Thirty-one units: a bracket is one of them.
        fault("wears (1" + "+1".repeat(28) + ")+1;", 2, 6 + 2 + 56 + 2);
        fault("wears 1" + "+1".repeat(29) + "+(1);", 2, 6 + 60);
    }

    private void stands(String text, int units) {
        FaithfulStools x = new FaithfulStools();
        due("4 chapel of " + text, tell(x, text), 0);
        due("45 units of " + text, x.about(11), units);
    }

    private void chapelsThatStand() {
        stands("", 0);
        stands(" \n ", 0);
        stands("saves 99;cold 100;draw 999;", 0);
        stands("saves 0001;cold 0;draw 0000;", 0);
        stands("bears(((((((1)))))));", 8);
        stands("bears not not not not not not not 1;", 1);
        stands("bears not not not not not not (1);wears 9999;", 3);
        stands("bears((1)+(2))*(3);", 7);
        stands("bears 1" + "+1".repeat(29) + ";wears (1" + "+1".repeat(28) + ");", 60);
        StringBuilder nots = new StringBuilder("bears ");
        for (int i = 0; i < 30; i++) {
            nots.append(i == 0 ? "" : " or ").append("not ".repeat(7)).append("day");
        }
        stands(nots + ";", 30);
        stands(lines("hearth ", 6, " at 1 heavy 1;"), 0);
        FaithfulStools x = told(lines("stool ", 5, " at 1 strong 1;") + lines("hearth ", 6, " at 1 heavy 1;"));
        due("4 five stools", x.about(0), 5);
        due("4 six hearths", x.about(1), 6);
        x = told("stool one at1 strong2 creed3 dent4;hearth abcdefgh at 0 heavy 0 room 1 warm 0;"
            + "hearth abcdefgi at 0 heavy 0 warm 9;stool abcdefgh at 99 strong 99 creed 0 dent 0;");
        due("4 no blanks", x.stool(0, 3), 4);
        due("4 names of eight", x.about(1), 2);
        due("4 least room", x.hearth(0, 2), 1);
        due("4 least warm", x.hearth(0, 3), 0);
        due("4 room not told", x.hearth(1, 2), 1);
        due("4 most warm", x.hearth(1, 3), 9);
        due("4 most at", x.stool(1, 0), 99);
        due("4 least dent", x.stool(1, 3), 0);
    }

    private void hearthsAndStools() {
        FaithfulStools x = told(STREET);
        int[][] hearths = {{10, 10, 2, 3, 0, 0, -1}, {30, 7, 1, 0, 0, 0, -1}};
        int[][] stools = {{0, 6, 0, 0, 0, -1, 0, -2}, {20, 8, 0, 4, 0, -1, 0, -2}, {50, 20, 1, 0, 0, -1, 0, -2}};
        for (int h = 0; h < 2; h++) {
            for (int what = 0; what < 7; what++) {
                due("6 hearth(" + h + ", " + what + ")", x.hearth(h, what), hearths[h][what]);
            }
        }
        for (int s = 0; s < 3; s++) {
            for (int what = 0; what < 8; what++) {
                due("7 stool(" + s + ", " + what + ")", x.stool(s, what), stools[s][what]);
            }
        }
        for (int none : new int[] {-1, 3, LOW, HIGH}) {
            due("6 none such", x.hearth(none, 0), -1);
            due("7 none such", x.stool(none, 0), -2);
            due("6 another what", x.hearth(0, none == 3 ? 6 : none), -1);
            due("7 another what", x.stool(0, none == 3 ? 7 : none), -2);
        }
        x.send(1, 0);
        x.send(2, 0);
        due("6 who is sent", x.hearth(0, 4), 6);
        due("6 they quarrel", x.hearth(0, 5), 1);
        due("7 where", x.stool(2, 5), 0);
        x.send(2, 1);
        due("6 no quarrel", x.hearth(0, 5), 0);
        x.evening();
        x.evening();
        due("7 saved", x.stool(2, 6), 1);
        due("27 saved", x.saved(), 4);
        x.evening();
        due("7 saved still", x.stool(2, 6), 1);
    }

    private void loads() {
        FaithfulStools x = told(STREET);
        due("8 nowhere", x.load(0), -1);
        due("8 none such", x.load(3), -1);
        due("8 none such", x.load(-1), -1);
        x.send(0, 0);
        due("8 alone", x.load(0), 10);
        x.send(2, 0);
        due("8 parted, though they quarrel", x.load(0), 5);
        x.send(2, 1);
        due("8 other hearth", x.load(2), 7);
        x = told("hearth a at 0 heavy 10 room 3; stool x at 0 strong 9; stool y at 0 strong 9; stool z at 0 strong 9;");
        x.send(0, 0);
        x.send(1, 0);
        x.send(2, 0);
        due("8 up to whole ones", x.load(2), 4);
    }

    private int valueOf(String formula) {
        FaithfulStools x = told("hearth a at 0 heavy 30 room 2 warm 4; stool x at 0 strong 50 dent 7; stool y at 0 strong 1;"
            + "bears " + formula + ";");
        x.send(1, 0);
        x.send(0, 0);
        return x.load(0);
    }

    private void formulas() {
        due("8 terms", valueOf("heavy*10+many"), 302);
        due("8 terms", valueOf("warm*100+dent*10"), 470);
        due("8 terms", valueOf("strong+day"), 50);
        due("8 at least 0", valueOf("1-2"), 0);
        due("8 at most", valueOf("9999"), 999);
        due("8 left first", valueOf("10-3-2"), 5);
        due("8 left first", valueOf("100/10/5"), 2);
        due("8 left first", valueOf("100/7*7%10"), 8);
        due("8 cut", valueOf("100+(0-7)/2"), 97);
        due("8 rest", valueOf("100+(0-7)%4"), 97);
        due("8 by 0", valueOf("5/0+7%0+3"), 3);
        due("8 wraps", valueOf("1000+9999*9999*9999%1000"), 31);
        due("8 wraps below 0", valueOf("9999*9999*9999<0"), 1);
        due("8 least by -1", valueOf("(0-2048*1024*1024)/(0-1)+5"), 0);
        due("8 least by -1", valueOf("(0-2048*1024*1024)%(0-1)+5"), 5);
        due("8 less", valueOf("(1<2)*100+(2<2)*10+(3<2)"), 100);
        due("8 more", valueOf("(1>2)*100+(2>2)*10+(3>2)"), 1);
        due("8 like", valueOf("(1=2)*100+(2=2)*10+(3=2)"), 10);
        due("8 and", valueOf("(2 and 3)*100+(0 and 3)*10+(2 and 0)"), 100);
        due("8 or", valueOf("(2 or 0)*100+(0 or 3)*10+(0 or 0)"), 110);
        due("8 not", valueOf("(not 0)*100+(not 5)*10+(not not 5)"), 101);
        due("8 not is wider than a relation", valueOf("not 1=0"), 1);
        due("8 and ahead of or", valueOf("1 or 0 and 0"), 1);
        due("8 sum ahead of relation", valueOf("1+1=2"), 1);
        due("8 alone it stays itself", valueOf("42"), 42);
    }

    private void sendAndCall() {
        FaithfulStools x = told(STREET);
        due("9 from nowhere", x.send(0, 1), -1);
        due("9 no room", x.send(1, 1), -2);
        due("9 there already", x.send(0, 1), -2);
        due("9 elsewhere", x.send(0, 0), 1);
        due("9 room for two", x.send(1, 0), -1);
        due("9 no room for three", x.send(2, 0), -2);
        due("9 there already, full", x.send(1, 0), -2);
        for (int none : new int[] {-1, 3, LOW, HIGH}) {
            due("9 no stool", x.send(none, 0), -2);
            due("9 no hearth", x.send(2, none), -2);
            due("10 no stool", x.call(none), -1);
        }
        due("9 acts", x.about(6), 3);
        due("10 from where", x.call(1), 0);
        due("10 nowhere already", x.call(1), -1);
        due("10 acts", x.about(6), 4);
        due("10 sent nowhere", x.stool(1, 5), -1);
        due("9 room again", x.send(2, 0), -1);
    }

    private void evenings() {
        FaithfulStools x = told(STREET);
        x.send(0, 0);
        x.send(1, 0);
        due("11 none cold", x.evening(), 0);
        due("11 strength", x.stool(0, 1), 5);
        due("11 dent", x.stool(1, 3), 5);
        due("11 evenings", x.stool(0, 4), 1);
        due("11 day", x.about(4), 1);
        due("11 stays sent", x.stool(0, 5), 0);
        due("11 rests, as told at most", x.stool(2, 1), 20);
        x.evening();
        x.evening();
        due("11 breaks", x.stool(0, 1), 2);
        due("11 broken, no evening", x.stool(0, 4), 2);
        due("11 broken, no dent", x.stool(0, 3), 2);
        x.call(0);
        x.evening();
        due("11 rests", x.stool(0, 1), 4);
        x.evening();
        due("11 rests", x.stool(0, 1), 6);
        x.evening();
        due("11 as strong as told", x.stool(0, 1), 6);
        x = told(STREET);
        x.send(1, 0);
        x.send(2, 0);
        x.evening();
        due("11 quarrelled away", x.stool(2, 4), 0);
        due("11 quarrelled away", x.stool(1, 1), 8);
        x = told("hearth a at 0 heavy 5 warm 2; stool x at 0 strong 50 dent 97; stool y at 0 strong 9 dent 3;"
            + "bears dent/4; wears warm+dent-dent+strong/10+heavy+many+day;");
        x.send(0, 0);
        x.evening();
        due("11 wears by what is ahead", x.stool(0, 1), 50 - (2 + 5 + 5 + 1));
        due("11 dent at most", x.stool(0, 3), 99);
        x.evening();
        due("11 wears by the day", x.stool(0, 1), 37 - (2 + 3 + 5 + 1 + 1));
        x = told("hearth a at 0 heavy 1; stool x at 0 strong 5; wears 0-3;");
        x.send(0, 0);
        for (int i = 0; i < 120; i++) {
            x.evening();
        }
        due("11 wears 0 at least", x.stool(0, 1), 5);
        due("11 evenings at most", x.stool(0, 4), 99);
        x = told("hearth a at 0 heavy 1; stool x at 0 strong 5; wears 300;");
        x.send(0, 0);
        x.evening();
        due("11 wears all he has at most", x.stool(0, 1), 0);
    }

    private void coldEvenings() {
        FaithfulStools x = told(DRAWS);
        x.send(0, 0);
        x.send(1, 1);
        x.send(2, 2);
        due("25 will not", x.will(0, 1), 0);
        due("25 will", x.will(2, 1), 1);
        due("26 no cold", x.strength(0, 1), 8);
        // 9 becomes 304, 719, 574: a and b are cold.
        due("11 cold", x.evening(), 3);
        due("11 seed", x.about(5), 574);
        due("11 nothing comes of it", x.stool(0, 4), 0);
        due("11 nobody breaks in the cold", x.stool(1, 1), 8);
        due("11 not cold", x.stool(2, 4), 1);
        x.undo();
        due("12 seed", x.about(5), 9);
        x = told(DRAWS.replace("cold 30", "cold 100"));
        due("11 all cold", x.evening(), 7);
        x = told(DRAWS.replace("cold 30", "cold 4"));
        due("11 less than told", x.evening(), 0);
        x = told(DRAWS.replace("cold 30", "cold 5"));
        due("11 less than told", x.evening(), 1);
        x = told(DRAWS.replace("cold 30", "cold 0"));
        due("11 none cold", x.evening(), 0);
        due("11 drawn all the same", x.about(5), 574);
    }

    private void undoAndRedo() {
        FaithfulStools x = told(STREET);
        x.send(2, 0);
        x.evening();
        x.call(2);
        due("12 undo", x.undo(), true);
        due("12 sent again", x.stool(2, 5), 0);
        due("12 undo", x.undo(), true);
        due("12 strength", x.stool(2, 1), 20);
        due("12 dent", x.stool(2, 3), 0);
        due("12 evenings", x.stool(2, 4), 0);
        due("12 day", x.about(4), 0);
        due("45 redoable", x.about(7), 2);
        due("13 redo", x.redo(), true);
        due("13 strength", x.stool(2, 1), 19);
        due("13 dent", x.stool(2, 3), 2);
        due("13 redo", x.redo(), true);
        due("13 none left", x.redo(), false);
        due("13 called back", x.stool(2, 5), -1);
        x.undo();
        x.send(2, 0);
        due("13 what does nothing is no act", x.about(7), 1);
        x.send(2, 1);
        due("13 gone by an act", x.redo(), false);
        for (int i = 0; i < 45; i++) {
            x.send(0, 0);
            x.call(0);
        }
        due("12 forty are kept", x.about(6), 40);
        x.undo();
        x.undo();
        x.evening();
        due("12 kept behind undo", x.about(6), 39);
        for (int i = 0; i < 39; i++) {
            due("12 undo", x.undo(), true);
        }
        due("12 the oldest are gone", x.undo(), false);
        due("12 where it began", x.stool(0, 5), -1);
        due("12 where it began", x.stool(2, 5), 1);
        due("45 redoable", x.about(7), 39);
        for (int i = 0; i < 39; i++) {
            due("13 redo", x.redo(), true);
        }
        due("13 none left", x.redo(), false);
        due("13 day", x.about(4), 2);
    }

    private void tonight() {
        FaithfulStools x = told(STREET);
        due("15 nobody walks", x.walk(), 0);
        for (int what = 0; what <= 2; what++) {
            due("14 nobody is sent, unlike as they are", x.tonight(what), 0);
        }
        x.send(0, 0);
        x.send(1, 1);
        due("14 counts", x.tonight(0), 2);
        due("14 breaks", x.tonight(1), 1);
        due("14 quarrels", x.tonight(2), 0);
        due("15 walk", x.walk(), 20);
        x.send(2, 0);
        due("14 counts", x.tonight(0), 2);
        due("14 nobody breaks there", x.tonight(1), 0);
        due("14 quarrel", x.tonight(2), 5);
        due("15 walk", x.walk(), 60);
        due("14 another what", x.tonight(3), -1);
        due("14 another what", x.tonight(-1), -1);
        x = told("hearth a at 0 heavy 9 room 5; stool x at 0 strong 9; stool y at 0 strong 9; stool z at 0 strong 9 creed 3;");
        x.send(0, 0);
        x.send(1, 0);
        x.send(2, 0);
        due("14 all quarrel, if two are unlike", x.tonight(2), 7);
        x.call(0);
        x.call(2);
        due("14 those called back quarrel nowhere", x.tonight(2), 0);
        due("14 the one who stays counts", x.tonight(0), 2);
    }

    private void roundAndService() {
        FaithfulStools x = told(STREET);
        due("16 how many", x.round(0), 3);
        lie("16", x, 0, 0, 1);
        due("16 walk", x.round(1), 40);
        due("16 another what", x.round(2), -1);
        due("16 another what", x.round(-1), -1);
        lie("16 stays", x, 0, 0, 1);
        due("17 walk", x.service(), 40);
        lie("17", x, 0, 0, 1);
        x.send(2, 0);
        due("16 anew, whoever is sent", x.round(0), 3);
        due("16 nothing is done", x.walk(), 40);
        // One who counts at no hearth stays nowhere, for the least walk; of like ones the first hearth.
        x = told("hearth a at 10 heavy 5; hearth b at 30 heavy 5; stool x at 20 strong 9; stool y at 20 strong 1;");
        due("16 one", x.round(0), 1);
        lie("16 the first of like ones", x, 0, -1);
        due("17 none", x.service(), -1);
        lie("17 none", x);
        // A service is as short as can be, though more could count.
        x = told("hearth a at 10 heavy 5 room 2; stool x at 12 strong 9; stool y at 11 strong 9;");
        due("17 shortest", x.service(), 1);
        lie("17 shortest", x, -1, 0);
        due("16 most", x.round(0), 2);
        lie("16 most", x, 0, 0);
        // He who breaks may help another one to count in a round, but not in a service.
        x = told("hearth a at 10 heavy 10 room 2; stool x at 12 strong 5; stool y at 11 strong 4;");
        due("16 helped", x.round(0), 1);
        lie("16 helped", x, 0, 0);
        due("16 both walk", x.round(1), 3);
        due("17 nobody may break", x.service(), -1);
        x = told("stool x at 12 strong 5;");
        due("17 no hearths", x.service(), 0);
        lie("17 no hearths", x, -1);
        due("16 no hearths", x.round(0), 0);
        x = told("hearth a at 10 heavy 0;");
        due("17 no stools", x.service(), -1);
        due("16 no stools", x.round(1), 0);
        lie("16 no stools", x);
    }

    private void teams() {
        FaithfulStools x = told(STREET);
        due("18 alone", x.team(0, 0), 1);
        due("18 alone", x.team(0, 1), 4);
        due("18 least set", x.team(1, 1), 2);
        x = told("hearth a at 0 heavy 30 room 3; hearth b at 0 heavy 30 room 2; hearth c at 0 heavy 99;"
            + "stool v at 0 strong 10 creed 1; stool w at 0 strong 15; stool x at 0 strong 14;"
            + "stool y at 0 strong 10 creed 1; stool z at 0 strong 14;");
        due("18 three of one creed", x.team(0, 0), 3);
        due("18 three of one creed", x.team(0, 1), 2 + 4 + 16);
        due("18 no room for three", x.team(1, 0), -1);
        due("18 none", x.team(2, 1), -1);
        for (int none : new int[] {-1, 3, LOW, HIGH}) {
            due("18 none such", x.team(none, 0), -1);
            due("18 another what", x.team(0, none == 3 ? 2 : none), -1);
        }
    }

    private void lastsAndSoon() {
        FaithfulStools x = told(STREET);
        due("19 lasts", x.lasts(2, 0), 11);
        due("19 lasts", x.lasts(1, 1), 2);
        due("19 not at all", x.lasts(0, 0), 0);
        due("19 by the day", told("hearth a at 0 heavy 1; stool x at 0 strong 8; bears day;").lasts(0, 0), 5);
        due("20 soon", x.soon(2, 0), 2);
        due("20 soon", x.soon(1, 1), 2);
        due("20 never", x.soon(0, 0), -1);
        for (int none : new int[] {-1, 3, LOW, HIGH}) {
            due("19 no stool", x.lasts(none, 0), -1);
            due("19 no hearth", x.lasts(0, none), -1);
            due("20 no stool", x.soon(none, 0), -1);
            due("20 no hearth", x.soon(0, none), -1);
        }
        x.send(2, 1);
        x.evening();
        due("20 one is done", x.soon(2, 0), 1);
        x.evening();
        due("20 saved now", x.soon(2, 0), 0);
        due("19 by what is now", x.lasts(2, 0), 9);
        x = told("hearth a at 0 heavy 39; stool x at 0 strong 99; saves 60;");
        due("19 sixty-one", x.lasts(0, 0), -1);
        x = told("hearth a at 0 heavy 40; stool x at 0 strong 99; saves 60; cold 100;");
        due("19 sixty", x.lasts(0, 0), 60);
        due("20 sixty", x.soon(0, 0), 60);
        x = told("hearth a at 0 heavy 1; stool x at 0 strong 99; saves 61;");
        due("20 sixty-one", x.soon(0, 0), -1);
        // He breaks at first, and counts once he is weak enough.
        x = told("hearth a at 0 heavy 1; stool x at 0 strong 80; bears (strong>10)*999; saves 1;");
        due("20 breaks first", x.soon(0, 0), 4);
        due("19 breaks first", x.lasts(0, 0), 0);
        x = told("hearth a at 0 heavy 1; stool x at 0 strong 80; bears (day<3)*999; saves 1;");
        due("20 by the day", x.soon(0, 0), 4);
    }

    private void change() {
        FaithfulStools x = told(STREET);
        due("21 none", x.change(0), -1);
        x.send(2, 0);
        x.send(0, 1);
        due("21 the first", x.change(0), 0);
        due("21 the other", x.change(1), 1);
        due("21 how many", x.change(2), 2);
        due("21 another what", x.change(3), -1);
        due("21 another what", x.change(-1), -1);
        due("21 nothing is done", x.stool(0, 5), 1);
        x.call(0);
        x.send(1, 1);
        due("21 not more", x.change(2), -1);
        x = told("hearth a at 0 heavy 9; stool x at 0 strong 1; stool y at 0 strong 9; stool z at 0 strong 9;");
        x.send(0, 0);
        due("21 the first of like ones", x.change(1), 1);
    }

    private void guests() {
        FaithfulStools x = told(STREET);
        due("22 two rests", x.guests(0, 1), 2);
        lie("22", x, 0, 0);
        due("22 unlike creeds", x.guests(1, 2), 2);
        lie("22 unlike", x, 0, 1);
        due("22 the other way", x.guests(2, 1), 2);
        lie("22 the other way", x, 0, 1);
        due("22 one", x.guests(1, 1), -1);
        lie("22 one", x);
        x.guests(0, 1);
        due("22 none such", x.guests(0, 3), -1);
        lie("22 none such", x);
        due("22 none such", x.guests(-1, 0), -1);
        due("22 none such", x.guests(LOW, HIGH), -1);
        x = told("stool x at 0 strong 1; stool y at 0 strong 1;");
        due("22 no hearths", x.guests(0, 1), -1);
        // Each would go where the other one is not, and where he is: none rests.
        x = told("hearth a at 10 heavy 10 room 2; hearth b at 12 heavy 10 room 2; stool x at 10 strong 5; stool y at 9 strong 10;"
            + "bears (many=1)*(strong<10)*99+(many=2)*(strong>9)*99;");
        due("22 no rest", x.guests(0, 1), 0);
        lie("22 no rest", x);
    }

    private void coverAndTheirLike() {
        FaithfulStools x = told(STREET);
        due("23 how many", x.cover(0), 1);
        due("23 which", x.cover(1), 2);
        due("23 another what", x.cover(2), -1);
        due("23 another what", x.cover(-1), -1);
        due("29 none", x.easiest(0), -1);
        due("29 one", x.easiest(1), 1);
        due("29 least load", x.easiest(2), 1);
        due("29 none such", x.easiest(3), -1);
        due("29 none such", x.easiest(-1), -1);
        due("30 none", x.forlorn(), 0);
        due("31 the first of like ones", x.nearest(1), 0);
        due("31 nearest", x.nearest(2), 1);
        x.send(2, 1);
        due("31 no room there, though he is it", x.nearest(2), 0);
        x.send(0, 0);
        due("31 room for another", x.nearest(0), 0);
        x.send(1, 0);
        due("31 no room", x.nearest(0), -1);
        due("31 none such", x.nearest(3), -1);
        due("31 none such", x.nearest(-1), -1);
        due("33 twos", x.schisms(), 2);
        x = told("hearth a at 0 heavy 9; hearth b at 0 heavy 9; hearth c at 0 heavy 99; stool x at 0 strong 9; stool y at 0 strong 1 creed 1;"
            + "stool z at 0 strong 50 creed 2; bears (warm+heavy)*(strong<40)+(strong>39)*(99-heavy)/2;");
        due("23 one does", x.cover(0), 1);
        due("23 least set", x.cover(1), 1);
        due("29 of like ones the first", x.easiest(0), 0);
        due("29 least load", x.easiest(2), 2);
        due("30 nobody", x.forlorn(), 0);
        due("33 all unlike", x.schisms(), 3);
        x = told("hearth a at 0 heavy 9; hearth b at 0 heavy 20; stool x at 0 strong 9; stool y at 0 strong 30; bears heavy*(strong<20)+(strong>19)*(heavy<10)*99;");
        due("23 two", x.cover(0), 2);
        due("23 both", x.cover(1), 3);
        x = told("hearth a at 0 heavy 9; hearth b at 0 heavy 3; stool x at 0 strong 5;");
        due("30 forlorn", x.forlorn(), 1);
        x = told("hearth a at 0 heavy 0; hearth b at 0 heavy 0;");
        due("30 no stools", x.forlorn(), 3);
        due("23 no stools", x.cover(0), 0);
        x = told("hearth a at 0 heavy 9; stool x at 0 strong 5;");
        due("23 nobody could", x.cover(1), 0);
    }

    private void pilgrims() {
        FaithfulStools x = told(STREET);
        due("24 from below", x.pilgrim(0), 30);
        due("24 from between", x.pilgrim(1), 30);
        due("24 from above", x.pilgrim(2), 40);
        x.send(2, 0);
        due("24 from where he is told to be", x.pilgrim(2), 40);
        due("24 none such", x.pilgrim(3), -1);
        due("24 none such", x.pilgrim(-1), -1);
        x = told("hearth a at 90 heavy 0; hearth b at 10 heavy 0; hearth c at 50 heavy 0; stool x at 30 strong 0;");
        due("24 the nearer end first", x.pilgrim(0), 100);
        x = told("stool x at 30 strong 0;");
        due("24 no hearths", x.pilgrim(0), 0);
    }

    private void ahead() {
        FaithfulStools x = told(STREET);
        due("28 not so", x.grace(), -1);
        x.send(0, 0);
        x.send(1, 0);
        x.send(2, 1);
        int[] strengths = {6, 5, 4, 2, 1, 0, 0};
        for (int n = 0; n < strengths.length; n++) {
            due("26 strength behind " + n, x.strength(0, n), strengths[n]);
            due("25 will behind " + n, x.will(0, n), Math.min(n, 2));
        }
        due("28 grace", x.grace(), 2);
        due("25 sixty", x.will(2, 60), 14);
        for (int none : new int[] {-1, 61, LOW, HIGH}) {
            due("25 not so many", x.will(0, none), -1);
            due("26 not so many", x.strength(0, none), -1);
            due("25 no stool", x.will(none, 0), -1);
            due("26 no stool", x.strength(none, 0), -1);
        }
        due("25 nothing is done", x.about(4), 0);
        x.evening();
        due("28 one is done", x.grace(), 1);
        x.evening();
        due("28 now", x.grace(), 0);
        due("27 all are saved", x.saved(), 7);
        x = told("hearth a at 0 heavy 0; stool x at 0 strong 9; saves 60; cold 100;");
        x.send(0, 0);
        due("28 sixty, no cold", x.grace(), 60);
        due("25 by the seed", x.will(0, 60), 0);
        x = told("hearth a at 0 heavy 0; stool x at 0 strong 9; saves 61;");
        x.send(0, 0);
        due("28 sixty-one", x.grace(), -1);
        due("25 sixty", x.will(0, 60), 60);
    }

    private void law() {
        FaithfulStools x = told(STREET);
        due("32 nobody is sent", x.law(0), 0);
        x.send(0, 0);
        x.send(1, 0);
        x.send(2, 1);
        due("32 as it is", x.law(0), 3);
        due("32 heavier", x.law(2), 3);
        due("32 heavier", x.law(3), 2);
        due("32 heavier", x.law(14), 0);
        due("32 as heavy as can be", x.law(99), 0);
        due("32 as light as can be", x.law(-99), 3);
        due("32 another n", x.law(100), -1);
        due("32 another n", x.law(-100), -1);
        due("32 another n", x.law(LOW), -1);
        x = told("hearth a at 0 heavy 5; stool x at 0 strong 0; bears heavy*heavy;");
        x.send(0, 0);
        due("32 0 at least", x.law(-9), 1);
        due("32 not 0", x.law(-4), 0);
    }

    private void odds() {
        int[][] by30 = {{1, 1}, {7, 10}, {49, 100}, {343, 1000}, {2401, 10000}};
        FaithfulStools x = told("cold 30;");
        for (int n = 0; n <= 4; n++) {
            due("34 upper " + n, x.odds(n, 0), by30[n][0]);
            due("34 lower " + n, x.odds(n, 1), by30[n][1]);
        }
        x = told("cold 1;");
        due("34 upper", x.odds(4, 0), 96059601);
        due("34 lower", x.odds(4, 1), 100000000);
        x = told("cold 100;");
        due("34 never", x.odds(4, 0), 0);
        due("34 never", x.odds(4, 1), 1);
        due("34 none to be cold in", x.odds(0, 0), 1);
        x = told("");
        due("34 always", x.odds(3, 0), 1);
        due("34 always", x.odds(3, 1), 1);
        for (int none : new int[] {-1, 5, LOW, HIGH}) {
            due("34 another n", x.odds(none, 0), -1);
            due("34 another part", x.odds(0, none == 5 ? 2 : none), -1);
        }
    }

    private void past() {
        FaithfulStools x = told(PAST);
        due("40 all", x.rows(0), 27);
        due("41 not sure", x.sure(1, 0), -2);
        due("42 first of like ones", x.ask(0, 0), 1);
        due("42 left", x.ask(1, 0), 9);
        due("36 number", x.dented(1, 1, true), 0);
        due("40 knelt at a", x.rows(0), 9);
        due("41 sure", x.sure(1, 0), 0);
        due("37 number", x.held(2, 9, true), 1);
        due("40 then nowhere", x.rows(0), 3);
        due("41 nowhere", x.sure(2, 0), -1);
        due("41 the third", x.sure(3, 0), -2);
        due("42 the third", x.ask(0, 0), 3);
        due("42 one is left", x.ask(1, 0), 1);
        // Behind the third one: 8 and a dent of 2 at a, 4 at b, 9 nowhere.
        due("37 not so strong", x.held(3, 9, false), 2);
        due("40 a or b", x.rows(0), 2);
        due("36 not so dented", x.dented(3, 2, false), 3);
        due("40 b", x.rows(0), 1);
        due("41 b", x.sure(3, 0), 1);
        due("42 of like ones the first", x.ask(0, 0), 1);
        due("36 what can't be", x.dented(3, 99, true), 4);
        due("40 none", x.rows(0), 0);
        due("41 no rows", x.sure(1, 0), -3);
        due("42 no rows", x.ask(0, 0), -1);
        due("42 no rows", x.ask(1, 0), -1);
        due("45 felt", x.about(8), 5);
        x = told(PAST);
        for (int none : new int[] {0, 4, LOW, HIGH}) {
            due("36 no such evening", x.dented(none, 0, true), -1);
            due("37 no such evening", x.held(none, 0, true), -1);
            due("36 no such dent", x.dented(1, none == 0 ? -1 : none == 4 ? 100 : none, true), -1);
            due("37 no such strength", x.held(1, none == 0 ? -1 : none == 4 ? 100 : none, true), -1);
            due("41 no such evening", x.sure(none, 0), -3);
            due("42 another what", x.ask(none == 0 ? -1 : none == 4 ? 2 : none, 0), -1);
        }
        due("36 nothing is felt", x.about(8), 0);
        // As told, from day 0 on, whatever has come since.
        x.send(0, 0);
        x.evening();
        x.evening();
        due("40 as told", x.rows(0), 27);
        x.held(1, 8, false);
        due("41 broke at b", x.sure(1, 0), 1);
        x = told("hearth a at 0 heavy 1; stool x at 0 strong 9; bears day*99;");
        x.held(1, 9, false);
        x.held(2, 5, false);
        x.held(3, 3, false);
        due("40 by the day", x.rows(0), 1);
        x = told("hearth a at 0 heavy 1;");
        due("40 no stools", x.rows(0), 0);
        due("41 no stools", x.sure(1, 0), -3);
        due("42 no stools", x.ask(0, 0), -1);
        due("36 no stools", x.dented(1, 0, true), -1);
        due("37 no stools", x.held(1, 0, true), -1);
        x = told("stool x at 0 strong 9;");
        due("40 no hearths", x.rows(0), 1);
        due("41 no hearths", x.sure(3, 0), -1);
    }

    private void pastInTwoTimes() {
        FaithfulStools x = told(PAST);
        due("39 later", x.later(0), 0);
        due("39 later", x.later(10), 10);
        x.dented(1, 1, true);
        due("40 not known yet", x.rows(9), 27);
        due("40 known", x.rows(10), 9);
        due("40 known later", x.rows(HIGH), 9);
        due("40 long ago", x.rows(LOW), 27);
        due("38 none such", x.untell(1), false);
        due("38 none such", x.untell(-1), false);
        x.later(5);
        due("38 untold", x.untell(0), true);
        due("38 untold already", x.untell(0), false);
        due("40 known till then", x.rows(14), 9);
        due("40 no longer", x.rows(15), 27);
        due("45 felt all the same", x.about(8), 1);
        x.held(1, 9, true);
        x.untell(1);
        due("40 untold at once", x.rows(15), 27);
        for (int i = 2; i < 30; i++) {
            due("36 number", x.dented(1, 0, true), i);
        }
        due("36 thirty", x.dented(1, 0, true), -1);
        due("37 thirty", x.held(1, 0, true), -1);
        due("39 another number", x.later(-1), -1);
        due("39 another number", x.later(1001), -1);
        due("39 another number", x.later(LOW), -1);
        due("39 another number", x.later(HIGH), -1);
        for (int i = 1; i < 100; i++) {
            due("39 later", x.later(1000), 15 + 1000 * i);
        }
        due("39 too late", x.later(986), -1);
        due("39 as late as can be", x.later(985), 100000);
        due("39 too late", x.later(1), -1);
        due("39 no later", x.later(0), 100000);
        due("45 time", x.about(9), 100000);
    }

    private void images() {
        FaithfulStools x = told(DRAWS);
        for (int none : new int[] {-1, 3, LOW, HIGH}) {
            due("43 none such", x.image(none), -1);
            due("44 none such", x.back(none), -1);
        }
        due("44 nothing kept", x.back(2), -1);
        x.send(2, 2);
        x.evening();
        due("43 image", x.image(2), 1);
        x.evening();
        x.call(2);
        due("43 another box", x.image(0), 2);
        x.undo();
        due("44 nothing kept", x.back(1), -1);
        due("44 nothing done", x.about(7), 1);
        due("44 back", x.back(2), 1);
        due("44 seed", x.about(5), 574);
        due("44 sent", x.stool(2, 5), 2);
        due("44 strength", x.stool(2, 1), 6);
        due("44 dent", x.stool(2, 3), 1);
        due("44 evenings", x.stool(2, 4), 1);
        due("44 no acts", x.about(6), 0);
        due("44 no acts", x.about(7), 0);
        due("44 no undo", x.undo(), false);
        x.evening();
        due("12 undo to the image", x.undo(), true);
        due("44 seed", x.about(5), 574);
        due("44 still kept", x.back(2), 1);
        due("44 the other box", x.back(0), 2);
        due("44 the other box", x.stool(2, 5), -1);
    }

    private void fullTape() {
        String blanks = " ".repeat(1600);
        for (String last : new String[] {"draw", "saves 9", "saves 7;", "saves 0", "foot", "hearth a", "stool abcdefgh"}) {
            FaithfulStools x = new FaithfulStools();
            String text = blanks.substring(last.length()) + last;
            boolean fine = last.endsWith(";");
            due("2 1600 bytes " + last, tell(x, text), fine ? 0 : -1);
            int place = last.equals("foot") ? 1596 : last.equals("saves 0") ? 1599 : 1600;
            due("5 fault of " + last, x.fault(0), fine ? 0 : last.equals("saves 0") ? 4 : 2);
            due("5 place of " + last, x.fault(1), fine ? -1 : place);
        }
        StringBuilder deep = new StringBuilder("hearth a at 0 heavy 0; stool x at 0 strong 0; bears ");
        for (int i = 0; i < 29; i++) {
            deep.append("not not not not not not not 0 and ");
        }
        FaithfulStools x = told(deep + "not not not not not not not 1;");
        x.send(0, 0);
        due("8 the last unit of thirty is heard", x.load(0), 0);
        x = told(deep + "not not not not not not not 0;");
        x.send(0, 0);
        due("8 the last unit of thirty is heard", x.load(0), 1);
        due("8 many wait for the innermost", valueOf("1-(1-(1-(1-(1-(1-(9-(1<2+3*4)))))))"), 8);
    }

    private void fullChapel() {
        String hearths = "hearth a at 10 heavy 40 room 5; hearth b at 20 heavy 8; hearth c at 30 heavy 8; hearth d at 40 heavy 8;"
            + "hearth e at 50 heavy 8; hearth f at 60 heavy 8;";
        String stools = "stool v at 10 strong 8; stool w at 20 strong 8; stool x at 30 strong 8; stool y at 40 strong 8; stool z at 50 strong 8;";
        FaithfulStools x = told(hearths + stools + "saves 1;");
        due("16 all five", x.round(0), 5);
        // v at b, w at c, and so on: ten each; as short as w at b, x at c and v at f, and so on, but that is not first.
        due("16 walk", x.round(1), 50);
        lie("16 five", x, 1, 2, 3, 4, 5);
        due("17 a too would be served by five alone", x.service(), -1);
        due("18 five", x.team(0, 0), 5);
        due("18 five", x.team(0, 1), 31);
        due("18 just as strong", x.team(5, 1), 1);
        // Each at his own place, or each at the other one's.
        due("22 guests", x.guests(3, 4), 2);
        lie("22 guests", x, 3, 4);
        due("23 cover", x.cover(1), 2);
        due("24 pilgrim", x.pilgrim(4), 60);
        due("29 easiest", x.easiest(4), 1);
        due("30 forlorn", x.forlorn(), 1);
        due("31 nearest", x.nearest(4), 4);
        due("33 schisms", x.schisms(), 0);
        due("40 rows", x.rows(0), 343);
        for (int s = 0; s < 5; s++) {
            due("9 send", x.send(s, 0), -1);
        }
        due("6 all five", x.hearth(0, 4), 31);
        due("8 all five", x.load(4), 8);
        due("14 all just count", x.tonight(0), 31);
        due("14 nobody breaks", x.tonight(1), 0);
        due("15 walk", x.walk(), 100);
        due("21 no better", x.change(0), -1);
        due("28 grace", x.grace(), 1);
        due("32 law", x.law(1), 0);
        due("26 strength", x.strength(4, 2), 3);
        due("25 will", x.will(4, 2), 1);
        due("11 evening", x.evening(), 0);
        due("27 saved", x.saved(), 31);
        x = told("hearth a at 0 heavy 36 room 5;" + stools);
        due("16 five at one", x.round(0), 5);
        lie("16 five at one", x, 0, 0, 0, 0, 0);
        due("17 five at one", x.service(), 150);
        x = told("hearth a at 0 heavy 32 room 4;" + stools);
        due("16 four at one", x.round(1), 100);
        lie("16 four at one", x, 0, 0, 0, 0, -1);
        x = told(hearths.replace("heavy 40", "heavy 0") + stools + "wears dent;");
        due("16 of like ones", x.round(1), 0);
        lie("16 at home, or with v", x, 0, 1, 2, 3, 4);
        due("17 six for five", x.service(), -1);
        x = told("hearth a at 0 heavy 9; hearth b at 5 heavy 9; stool x at 0 strong 9; stool y at 5 strong 9; bears heavy*many;");
        x.send(0, 1);
        due("21 just as strong", x.change(0), -1);
        due("22 just as strong: each at home, or at the other one's", x.guests(0, 1), 2);
        lie("22 each at home", x, 0, 1);
        x = told("hearth a at 0 heavy 9 room 2; hearth b at 9 heavy 99; stool x at 0 strong 5; stool y at 9 strong 5;");
        due("22 just as strong together", x.guests(0, 1), 1);
        lie("22 together", x, 0, 0);
        x = told(PAST);
        // At a first and nowhere last; between, at a or nowhere.
        x.dented(1, 1, true);
        x.held(3, 9, true);
        due("40 rows", x.rows(0), 2);
        due("42 the second one", x.ask(0, 0), 2);
        due("42 one is left", x.ask(1, 0), 1);
    }

    private void about() {
        FaithfulStools x = told(STREET + "cold 20; draw 8; bears heavy+(1);");
        x.later(3);
        x.send(0, 0);
        x.send(1, 1);
        x.evening();
        x.undo();
        x.held(1, 1, true);
        x.feed(1, 2, 3, 4, 5);
        x.guests(0, 1);
        int[] want = {3, 2, 2, 20, 0, 8, 2, 1, 1, 3, 20, 3, 2, -1};
        for (int what = 0; what < want.length; what++) {
            due("45 about(" + what + ")", x.about(what), want[what]);
        }
        due("45 another what", x.about(-1), -1);
        due("45 another what", x.about(LOW), -1);
        due("45 another what", x.about(HIGH), -1);
    }
}
