/** The edges of loads, acts and images: section 2 of the document, promises 8 to 13, 43 and 44. */
public final class ActEdgesTest extends Checks {
    private static final String FIVE = "stool v at 0 strong 9; stool w at 0 strong 9; stool x at 0 strong 9; stool y at 0 strong 9; stool z at 0 strong 9;";

    public static void main(String[] args) {
        ActEdgesTest t = new ActEdgesTest();
        t.loadIsPartedUpToWholeOnes();
        t.loadIsWithinItsBounds();
        t.formulasWrap();
        t.divisionByNought();
        t.relationsAtTheEdge();
        t.termsAreTheHearthsAndHisOwn();
        t.countsAtTheEdge();
        t.quarrels();
        t.roomForOneToFive();
        t.sendFromWhereHeWas();
        t.callBack();
        t.eveningsAtMost();
        t.dentAtMost();
        t.dentIsCut();
        t.wearsAtTheEdge();
        t.wearsByWhatIsAhead();
        t.halfOfTheBroken();
        t.restOfTheIdle();
        t.coldAtTheEdge();
        t.seedGoesRound();
        t.nothingComesOfCold();
        t.dayAtMost();
        t.fortyActs();
        t.redoTillAnotherAct();
        t.undoIsWhole();
        t.imagesAtTheEdge();
        t.imagesAreWhole();
        t.close("ActEdgesTest");
    }

    /** Hearth a and stool x at one place, he is sent there. */
    private static FaithfulStools lone(int heavy, int strong, int dent, String rest) {
        FaithfulStools x = told("hearth a at 0 heavy " + heavy + " warm 4; stool x at 0 strong " + strong + " dent " + dent + ";" + rest);
        x.send(0, 0);
        return x;
    }

    private static int loadBy(String formula) {
        return lone(30, 50, 7, "bears " + formula + ";").load(0);
    }

    private void loadIsPartedUpToWholeOnes() {
        for (int heavy : new int[] {0, 1, 2, 3, 4, 5, 6, 11, 12, 13, 98, 99}) {
            FaithfulStools x = told("hearth a at 0 heavy " + heavy + " room 5;" + FIVE);
            due("8 nowhere", x.load(0), -1);
            for (int many = 1; many <= 5; many++) {
                x.send(many - 1, 0);
                for (int s = 0; s < 5; s++) {
                    int due = heavy / many + (heavy % many == 0 ? 0 : 1);
                    due("8 " + heavy + " by " + many, x.load(s), s < many ? due : -1);
                }
            }
            x.call(2);
            due("8 four again", x.load(0), heavy / 4 + (heavy % 4 == 0 ? 0 : 1));
            due("8 called back", x.load(2), -1);
        }
    }

    /** 0 at least, 999 at most. */
    private void loadIsWithinItsBounds() {
        due("8", loadBy("0"), 0);
        due("8", loadBy("0-1"), 0);
        due("8", loadBy("0-9999*9999"), 0);
        due("8", loadBy("998"), 998);
        due("8", loadBy("999"), 999);
        due("8", loadBy("1000"), 999);
        due("8", loadBy("9999*9999"), 999);
        // The bounds are of what comes of it all, not of its parts.
        due("8", loadBy("9999-9990"), 9);
        due("8", loadBy("5-9+6"), 2);
    }

    /** Ints, wrapping. */
    private void formulasWrap() {
        String most = "(2048*1024*1024-1)";
        String least = "(2048*1024*1024)";
        due("8 wraps to the least", loadBy(least + "<0"), 1);
        due("8 wraps to the most", loadBy(most + ">0"), 1);
        due("8 one more", loadBy(most + "+1=" + least), 1);
        due("8 one less", loadBy(least + "-1=" + most), 1);
        due("8 twice", loadBy("1024*1024*1024*4"), 0);
        due("8 four times and five", loadBy("1024*1024*1024*4+5"), 5);
        due("8 least by -1", loadBy(least + "/(0-1)=" + least), 1);
        due("8 least by -1 leaves nothing", loadBy(least + "%(0-1)"), 0);
        due("8 the third power is -1027349969", loadBy("9999*9999*9999%1000+1000"), 31);
    }

    /** / cut, % its rest, both by 0: 0. */
    private void divisionByNought() {
        due("8 by 0", loadBy("7/0"), 0);
        due("8 rest by 0", loadBy("7%0"), 0);
        due("8 by 0 and on", loadBy("7/0+5"), 5);
        due("8 by what is 0", loadBy("100+7/(warm-4)"), 100);
        due("8 rest by what is 0", loadBy("100+7%day"), 100);
        due("8 0 by 0", loadBy("100+0/0+0%0"), 100);
        due("8 0 by some", loadBy("100+0/7+0%7"), 100);
        due("8 cut", loadBy("7/2*100+(7%2)*10"), 310);
        due("8 cut towards 0", loadBy("100+(0-7)/2"), 97);
        due("8 cut towards 0", loadBy("100+7/(0-2)"), 97);
        due("8 cut towards 0", loadBy("100+(0-7)/(0-2)"), 103);
        due("8 rest below 0", loadBy("100+(0-7)%2"), 99);
        due("8 rest by one below 0", loadBy("100+7%(0-2)"), 101);
        due("8 rest of itself", loadBy("100+7%7"), 100);
        due("8 less than the divisor", loadBy("6/7*100+6%7"), 6);
    }

    /** Relations, and, or, not are 1 or 0, of what is not 0. */
    private void relationsAtTheEdge() {
        for (int a = 4; a <= 6; a++) {
            due("8 " + a + "<5", loadBy(a + "<5"), a < 5 ? 1 : 0);
            due("8 " + a + ">5", loadBy(a + ">5"), a > 5 ? 1 : 0);
            due("8 " + a + "=5", loadBy(a + "=5"), a == 5 ? 1 : 0);
        }
        due("8 below 0 is less", loadBy("0-1<0"), 1);
        for (String a : new String[] {"0", "1", "7", "(0-1)"}) {
            for (String b : new String[] {"0", "1", "7", "(0-1)"}) {
                due("8 " + a + " and " + b, loadBy(a + " and " + b), a.equals("0") || b.equals("0") ? 0 : 1);
                due("8 " + a + " or " + b, loadBy(a + " or " + b), a.equals("0") && b.equals("0") ? 0 : 1);
            }
            due("8 not " + a, loadBy("not " + a), a.equals("0") ? 1 : 0);
            due("8 not not " + a, loadBy("not not " + a), a.equals("0") ? 0 : 1);
        }
        due("8 not reaches over the relation", loadBy("not 0=1"), 1);
        due("8 not reaches no farther", loadBy("not 1 or 1"), 1);
        due("8 not reaches no farther", loadBy("not 0 and 0"), 0);
        due("8 and binds more than or", loadBy("1 or 1 and 0"), 1);
        due("8 and binds more than or", loadBy("0 and 1 or 1"), 1);
        due("8 sums bind more than relations", loadBy("2<1+2"), 1);
        due("8 terms bind more than sums", loadBy("2+3*4"), 14);
        due("8 from the left", loadBy("20-5-4"), 11);
        due("8 from the left", loadBy("100/5*2%7"), 5);
    }

    private void termsAreTheHearthsAndHisOwn() {
        FaithfulStools x = told("hearth a at 1 heavy 2 room 3 warm 4; hearth b at 5 heavy 6 room 3 warm 8; stool x at 9 strong 50 dent 11;"
            + "stool y at 12 strong 60 dent 21; stool z at 3 strong 70; bears heavy*100+many*10+warm; wears day*10+dent;");
        x.send(0, 0);
        x.send(1, 1);
        x.send(2, 1);
        due("8 his hearth's", x.load(0), 214);
        due("8 his hearth's", x.load(1), 628);
        x = told("hearth a at 1 heavy 2 room 3 warm 4; stool x at 9 strong 50 dent 11; stool y at 12 strong 60 dent 21; bears strong*10+dent+day*100;");
        x.send(0, 0);
        x.send(1, 0);
        due("8 his own", x.load(0), 511);
        due("8 his own", x.load(1), 621);
        x.evening();
        // Both broke: half their strength, and a day later.
        due("8 by the day", x.load(0), 250 + 11 + 100);
        due("8 by the day", x.load(1), 300 + 21 + 100);
    }

    /** COUNTS: no more than his STRENGTH; BREAKS: more. */
    private void countsAtTheEdge() {
        for (int strong : new int[] {0, 1, 50, 99}) {
            for (int heavy = Math.max(0, strong - 1); heavy <= Math.min(99, strong + 1); heavy++) {
                FaithfulStools x = lone(heavy, strong, 0, "");
                due("14 counts", x.tonight(0), heavy <= strong ? 1 : 0);
                due("14 breaks", x.tonight(1), heavy <= strong ? 0 : 1);
                due("14 no quarrel", x.tonight(2), 0);
                x.evening();
                due("11 counted", x.stool(0, 4), heavy <= strong ? 1 : 0);
                due("11 strength", x.stool(0, 1), heavy <= strong ? Math.max(0, strong - 1) : strong / 2);
            }
        }
        FaithfulStools x = told("hearth a at 0 heavy 0; stool x at 0 strong 9;");
        due("14 who is sent nowhere does not count", x.tonight(0), 0);
        due("14 nor does he break", x.tonight(1), 0);
    }

    /** Two of unlike creeds; nobody counts or breaks there. */
    private void quarrels() {
        FaithfulStools x = told("hearth a at 0 heavy 20 room 5; hearth b at 0 heavy 0 room 2; stool v at 0 strong 9; stool w at 0 strong 9 creed 0;"
            + "stool x at 0 strong 9 creed 3; stool y at 0 strong 1 creed 3;");
        due("6 nobody", x.hearth(0, 5), 0);
        x.send(0, 0);
        due("6 one alone", x.hearth(0, 5), 0);
        x.send(1, 0);
        due("6 two alike, told or not", x.hearth(0, 5), 0);
        due("14 both break", x.tonight(1), 3);
        x.send(2, 0);
        due("6 one is unlike", x.hearth(0, 5), 1);
        due("14 three quarrel", x.tonight(2), 7);
        due("14 nobody breaks", x.tonight(1), 0);
        due("14 nobody counts", x.tonight(0), 0);
        x.send(3, 1);
        due("14 another hearth", x.tonight(0), 8);
        due("6 another hearth", x.hearth(1, 5), 0);
        x.evening();
        for (int s = 0; s < 3; s++) {
            due("11 quarrelled away: strength", x.stool(s, 1), 9);
            due("11 quarrelled away: evenings", x.stool(s, 4), 0);
            due("11 quarrelled away: dent", x.stool(s, 3), 0);
        }
        due("11 another hearth", x.stool(3, 4), 1);
        x.call(0);
        due("6 one and one still", x.hearth(0, 5), 1);
        x.call(1);
        due("6 one is left", x.hearth(0, 5), 0);
        x.send(3, 0);
        due("6 of one creed", x.hearth(0, 5), 0);
    }

    private void roomForOneToFive() {
        for (int room = 1; room <= 5; room++) {
            FaithfulStools x = told("hearth a at 0 heavy 0 room " + room + "; hearth b at 0 heavy 0;" + FIVE);
            for (int s = 0; s < 5; s++) {
                due("9 room for " + room, x.send(s, 0), s < room ? -1 : -2);
                due("9 sent there already", x.send(s, s < room ? 0 : -1), -2);
            }
            due("6 who is sent there", x.hearth(0, 4), (1 << room) - 1);
            due("45 acts", x.about(6), room);
            x.call(0);
            due("9 room for another", x.send(4, 0), room == 5 ? -2 : -1);
        }
    }

    /** From where he was SENT, too: that leaves room there. */
    private void sendFromWhereHeWas() {
        FaithfulStools x = told("hearth a at 0 heavy 0; hearth b at 0 heavy 0; hearth c at 0 heavy 0 room 2; stool x at 0 strong 9; stool y at 0 strong 9;");
        due("9 from nowhere", x.send(0, 0), -1);
        due("9 full", x.send(1, 0), -2);
        due("9 from the first", x.send(0, 2), 0);
        due("9 room was left", x.send(1, 0), -1);
        due("9 no way back", x.send(0, 0), -2);
        due("9 from the last", x.send(0, 1), 2);
        due("9 from the first", x.send(1, 2), 0);
        due("9 sent there, though there is room", x.send(1, 2), -2);
        due("7 where", x.stool(0, 5), 1);
        due("7 where", x.stool(1, 5), 2);
        due("6 nobody is left", x.hearth(0, 4), 0);
        due("6 one", x.hearth(1, 4), 1);
        due("6 the other", x.hearth(2, 4), 2);
    }

    private void callBack() {
        FaithfulStools x = told("hearth a at 0 heavy 0; hearth b at 0 heavy 0;" + FIVE);
        due("10 nowhere", x.call(0), -1);
        x.send(0, 0);
        x.send(4, 1);
        due("10 from the first", x.call(0), 0);
        due("10 from the last", x.call(4), 1);
        due("10 twice", x.call(4), -1);
        due("10 none such", x.call(5), -1);
        due("10 none such", x.call(-1), -1);
        due("45 acts", x.about(6), 4);
        due("9 from nowhere again", x.send(4, 1), -1);
    }

    /** 99 at most. */
    private void eveningsAtMost() {
        FaithfulStools x = lone(0, 9, 0, "wears 0; saves 99;");
        for (int i = 1; i <= 98; i++) {
            x.evening();
        }
        due("11 ninety-eight", x.stool(0, 4), 98);
        due("27 not yet", x.saved(), 0);
        due("20 one more", x.soon(0, 0), 1);
        due("25 will", x.will(0, 1), 99);
        due("25 will", x.will(0, 60), 99);
        x.evening();
        due("11 ninety-nine", x.stool(0, 4), 99);
        due("27 saved", x.saved(), 1);
        x.evening();
        due("11 ninety-nine at most", x.stool(0, 4), 99);
        due("27 saved still", x.saved(), 1);
        due("11 the day goes on", x.about(4), 100);
        due("25 will", x.will(0, 60), 99);
    }

    /** A DENT of a fifth of his LOAD more, 99 at most. */
    private void dentAtMost() {
        int[][] both = {{98, 4, 98}, {98, 5, 99}, {98, 9, 99}, {98, 10, 99}, {99, 4, 99}, {99, 5, 99}, {99, 99, 99}, {0, 99, 19}, {80, 99, 99}, {79, 99, 98}};
        for (int[] b : both) {
            FaithfulStools x = lone(b[1], 99, b[0], "");
            x.evening();
            due("11 dent " + b[0] + " and " + b[1], x.stool(0, 3), b[2]);
        }
    }

    private void dentIsCut() {
        for (int heavy = 0; heavy <= 99; heavy++) {
            FaithfulStools x = lone(heavy, 99, 0, "");
            x.evening();
            due("11 a fifth of " + heavy, x.stool(0, 3), heavy / 5);
        }
        FaithfulStools x = told("hearth a at 0 heavy 9 room 2; stool x at 0 strong 9; stool y at 0 strong 4;");
        x.send(0, 0);
        x.send(1, 0);
        x.evening();
        due("11 a fifth of his load, not of the feet", x.stool(0, 3), 1);
        due("11 who breaks has no dent of it", x.stool(1, 3), 0);
    }

    /** 1 if it is not told; 0 at least, all he has at most. */
    private void wearsAtTheEdge() {
        int[][] strengths = {{5, 4}, {1, 0}, {0, 0}};
        for (int[] s : strengths) {
            FaithfulStools x = lone(0, s[0], 0, "");
            x.evening();
            due("11 not told, of " + s[0], x.stool(0, 1), s[1]);
        }
        String[] formulas = {"0", "0-1", "0-9999", "1", "4", "5", "6", "9999", "9999*9999*9", "strong", "strong+1", "strong-1", "2048*1024*1024"};
        int[] left = {5, 5, 5, 4, 1, 0, 0, 0, 0, 0, 0, 1, 5};
        for (int i = 0; i < formulas.length; i++) {
            FaithfulStools x = lone(0, 5, 0, "wears " + formulas[i] + ";");
            x.evening();
            due("11 wears " + formulas[i], x.stool(0, 1), left[i]);
            due("11 it counted", x.stool(0, 4), 1);
        }
    }

    /** By what is so ahead: not by the dent, strength or day that the evening brings. */
    private void wearsByWhatIsAhead() {
        FaithfulStools x = lone(50, 90, 3, "wears dent*10+day;");
        x.evening();
        due("11 by the dent ahead", x.stool(0, 1), 60);
        due("11 dent", x.stool(0, 3), 13);
        x = lone(50, 90, 3, "wears day;");
        x.evening();
        due("11 by the day ahead", x.stool(0, 1), 90);
        x.evening();
        due("11 by the day ahead", x.stool(0, 1), 89);
        // Many and strengths of all are those ahead: one who breaks first is one of many still, whoever comes first.
        for (int weak = 0; weak < 2; weak++) {
            x = told("hearth a at 0 heavy 10 room 2; stool x at 0 strong " + (weak == 0 ? 4 : 5) + "; stool y at 0 strong " + (weak == 0 ? 5 : 4) + "; wears many;");
            x.send(0, 0);
            x.send(1, 0);
            x.evening();
            due("11 breaks", x.stool(weak, 1), 2);
            due("11 counts by both", x.stool(1 - weak, 1), 3);
        }
    }

    private void halfOfTheBroken() {
        int[][] halves = {{0, 0}, {1, 0}, {2, 1}, {3, 1}, {7, 3}, {98, 49}, {99, 49}};
        for (int[] h : halves) {
            FaithfulStools x = lone(0, h[0], 9, "bears strong+1; wears 9;");
            x.evening();
            due("11 half of " + h[0], x.stool(0, 1), h[1]);
            due("11 no evening of it", x.stool(0, 4), 0);
            due("11 no dent of it", x.stool(0, 3), 9);
            due("11 stays sent", x.stool(0, 5), 0);
        }
    }

    /** 2 more, as strong as he was told at most. */
    private void restOfTheIdle() {
        for (int worn = 0; worn <= 9; worn++) {
            FaithfulStools x = lone(0, 9, 0, "wears (day=0)*" + worn + ";");
            x.evening();
            x.call(0);
            due("11 worn", x.stool(0, 1), 9 - worn);
            x.evening();
            due("11 rests", x.stool(0, 1), Math.min(9, 9 - worn + 2));
            x.evening();
            due("11 rests", x.stool(0, 1), Math.min(9, 9 - worn + 4));
            due("11 no evening of rest", x.stool(0, 4), 1);
            due("26 goes on resting", x.strength(0, 60), 9);
        }
        for (int strong = 0; strong <= 3; strong++) {
            FaithfulStools x = told("hearth a at 0 heavy 99; stool x at 0 strong " + strong + ";");
            x.evening();
            due("11 no more than told", x.stool(0, 1), strong);
            x.send(0, 0);
            x.evening();
            x.call(0);
            x.evening();
            due("11 no more than told", x.stool(0, 1), strong);
        }
    }

    /** If its rest by 100 is less than cold tells. */
    private void coldAtTheEdge() {
        // From 0 the seed becomes 71, 798, 397, 460, 91, 538.
        int[] rests = {71, 98, 97, 60, 91, 38};
        StringBuilder hearths = new StringBuilder();
        for (int h = 0; h < 6; h++) {
            hearths.append("hearth ").append((char) ('a' + h)).append(" at 0 heavy 0;");
        }
        for (int cold = 0; cold <= 100; cold++) {
            int bits = 0;
            for (int h = 0; h < 6; h++) {
                bits |= rests[h] < cold ? 1 << h : 0;
            }
            FaithfulStools x = told(hearths + "cold " + cold + ";");
            due("11 cold " + cold, x.evening(), bits);
            due("11 seed", x.about(5), 538);
        }
        due("11 cold is not told", told(hearths.toString()).evening(), 0);
        due("11 no hearths", told("cold 100; draw 5;").evening(), 0);
    }

    private void seedGoesRound() {
        for (int draw : new int[] {0, 1, 9, 500, 998, 999}) {
            FaithfulStools x = told("hearth a at 0 heavy 0; hearth b at 0 heavy 0; draw " + draw + ";");
            int seed = draw;
            for (int i = 0; i < 50; i++) {
                x.evening();
                seed = (seed * 137 + 71) % 1000;
                seed = (seed * 137 + 71) % 1000;
                due("11 seed of " + draw, x.about(5), seed);
            }
        }
        FaithfulStools x = told("draw 999; stool x at 0 strong 1;");
        x.evening();
        due("11 no hearths, no draws", x.about(5), 999);
        x = told("draw 999; hearth a at 0 heavy 0;");
        x.evening();
        due("11 modulo 1000", x.about(5), 934);
    }

    /** COLD: nothing comes of it there; all others as ever. */
    private void nothingComesOfCold() {
        // From 0: 71 and 798, so a alone is cold.
        FaithfulStools x = told("hearth a at 0 heavy 5 room 2; hearth b at 0 heavy 5; stool x at 0 strong 9; stool y at 0 strong 1;"
            + "stool z at 0 strong 9; cold 72;");
        x.send(0, 0);
        x.send(1, 0);
        x.send(2, 1);
        due("14 he would break", x.tonight(1), 2);
        due("11 a is cold", x.evening(), 1);
        due("11 no evening", x.stool(0, 4), 0);
        due("11 no wear", x.stool(0, 1), 9);
        due("11 no dent", x.stool(0, 3), 0);
        due("11 not broken", x.stool(1, 1), 1);
        due("11 stays sent", x.stool(0, 5), 0);
        due("11 b is warm", x.stool(2, 4), 1);
        due("11 the day goes up", x.about(4), 1);
        // Who is sent nowhere rests, though all is cold.
        x = told("hearth a at 0 heavy 99; stool x at 0 strong 9; cold 100;");
        FaithfulStools y = told("hearth a at 0 heavy 99; stool x at 0 strong 9; cold 51; draw 429;");
        x.evening();
        due("11 as strong as told", x.stool(0, 1), 9);
        y.send(0, 0);
        // 429 becomes 844 (cold), 699 (warm), 834.
        due("11 cold", y.evening(), 1);
        due("11 not broken in the cold", y.stool(0, 1), 9);
        due("11 warm", y.evening(), 0);
        due("11 broken", y.stool(0, 1), 4);
        y.call(0);
        due("11 cold", y.evening(), 1);
        due("11 rests in the cold", y.stool(0, 1), 6);
    }

    /**
     * NONE, doing nothing, behind 999 of them. No run of 512 calls comes so far, so the promise can't be broken
     * there; the class keeps to it all the same, and what lies ahead goes on beyond.
     */
    private void dayAtMost() {
        FaithfulStools x = told("hearth a at 0 heavy 5; stool x at 0 strong 9; bears (day>1001)*99; wears 0; draw 3; saves 99;");
        for (int i = 1; i <= 999; i++) {
            due("11 evening", x.evening(), 0);
        }
        due("11 day", x.about(4), 999);
        int seed = x.about(5);
        due("11 no more", x.evening(), -1);
        due("11 day stays", x.about(4), 999);
        due("11 seed stays", x.about(5), seed);
        due("45 acts stay", x.about(6), 40);
        x.send(0, 0);
        due("11 no more", x.evening(), -1);
        due("7 nothing came of it", x.stool(0, 4), 0);
        due("19 beyond day 999", x.lasts(0, 0), 3);
        due("25 beyond day 999", x.will(0, 3), 3);
        due("25 beyond day 999", x.will(0, 60), 3);
        due("26 beyond day 999", x.strength(0, 4), 4);
        due("20 beyond day 999", x.soon(0, 0), -1);
        due("43 day", x.image(0), 999);
        x.undo();
        x.undo();
        due("12 undone", x.about(4), 998);
        due("11 again", x.evening(), 0);
        due("11 no more", x.evening(), -1);
        due("44 day", x.back(0), 999);
        due("11 no more", x.evening(), -1);
        due("45 no act", x.about(6), 0);
    }

    /** 40 at most are kept, the oldest go. */
    private void fortyActs() {
        for (int acts : new int[] {0, 1, 39, 40, 41, 42, 80, 100}) {
            FaithfulStools x = told("hearth a at 0 heavy 0; stool x at 0 strong 1;");
            for (int i = 0; i < acts; i++) {
                x.evening();
            }
            int kept = Math.min(40, acts);
            due("45 kept of " + acts, x.about(6), kept);
            due("45 none to redo", x.about(7), 0);
            for (int i = 1; i <= kept; i++) {
                due("12 undo", x.undo(), true);
                due("12 day", x.about(4), acts - i);
                due("45 left", x.about(6), kept - i);
                due("45 to redo", x.about(7), i);
            }
            due("12 none is left", x.undo(), false);
            due("12 nothing is done", x.about(4), acts - kept);
            for (int i = 1; i <= kept; i++) {
                due("13 redo", x.redo(), true);
                due("13 day", x.about(4), acts - kept + i);
            }
            due("13 none is left", x.redo(), false);
            due("13 nothing is done", x.about(4), acts);
            due("45 kept again", x.about(6), kept);
        }
        // Undone ones go with another act; then there is room for as many more.
        FaithfulStools x = told("hearth a at 0 heavy 0; stool x at 0 strong 1;");
        for (int i = 0; i < 50; i++) {
            x.evening();
        }
        for (int i = 0; i < 15; i++) {
            x.undo();
        }
        due("45 acts", x.about(6), 25);
        for (int i = 0; i < 15; i++) {
            x.evening();
            due("45 acts", x.about(6), 26 + i);
            due("45 none to redo", x.about(7), 0);
        }
        x.evening();
        due("45 forty at most", x.about(6), 40);
    }

    private void redoTillAnotherAct() {
        String text = "hearth a at 0 heavy 0; stool x at 0 strong 9; stool y at 0 strong 9;";
        FaithfulStools x = told(text);
        due("13 none at first", x.redo(), false);
        x.send(0, 0);
        due("13 none behind an act", x.redo(), false);
        x.undo();
        // What is refused, asked, told or kept is no act.
        x.call(0);
        x.send(5, 0);
        x.round(0);
        x.image(0);
        x.dented(1, 1, true);
        x.untell(0);
        x.later(9);
        x.back(1);
        x.feed(0x24242424, 0, 0, 0, 0);
        x.chapel();
        due("13 can be done again", x.about(7), 1);
        due("13 done again", x.redo(), true);
        due("13 sent again", x.stool(0, 5), 0);
        due("13 no more", x.redo(), false);
        for (int act = 0; act < 3; act++) {
            x = told(text);
            x.send(0, 0);
            x.evening();
            x.undo();
            int done = act == 0 ? x.send(1, 0) : act == 1 ? x.call(0) : x.evening();
            due("13 an act or none", x.about(7), done == -2 ? 1 : 0);
            due("13 redo", x.redo(), done == -2);
        }
        x = told(text);
        x.evening();
        x.image(2);
        x.evening();
        x.undo();
        x.back(2);
        due("44 no acts are kept", x.redo(), false);
        due("44 no acts are kept", x.undo(), false);
        x.evening();
        x.undo();
        tell(x, text);
        due("4 no acts are kept", x.redo(), false);
        due("4 no acts are kept", x.undo(), false);
        due("4 day", x.about(4), 0);
    }

    private void undoIsWhole() {
        FaithfulStools x = told("hearth a at 0 heavy 5 room 2; hearth b at 0 heavy 90; stool x at 0 strong 9 dent 2; stool y at 0 strong 40;"
            + "stool z at 0 strong 8; draw 7;");
        x.send(0, 0);
        x.send(1, 1);
        x.evening();
        due("11 counted", x.stool(0, 1), 8);
        due("11 broke", x.stool(1, 1), 20);
        due("12 undo", x.undo(), true);
        int[][] before = {{9, 2, 0, 0}, {40, 0, 0, 1}, {8, 0, 0, -1}};
        for (int s = 0; s < 3; s++) {
            due("12 strength", x.stool(s, 1), before[s][0]);
            due("12 dent", x.stool(s, 3), before[s][1]);
            due("12 evenings", x.stool(s, 4), before[s][2]);
            due("12 sent", x.stool(s, 5), before[s][3]);
        }
        due("12 seed", x.about(5), 7);
        due("12 day", x.about(4), 0);
        due("13 redo", x.redo(), true);
        due("13 strength", x.stool(0, 1), 8);
        due("13 dent", x.stool(0, 3), 3);
        due("13 evenings", x.stool(0, 4), 1);
        due("13 broke", x.stool(1, 1), 20);
        due("13 seed", x.about(5), ((7 * 137 + 71) % 1000 * 137 + 71) % 1000);
        due("13 day", x.about(4), 1);
        // A send from one hearth to another is taken back to that one.
        x.send(0, 1);
        x.call(1);
        due("9 from hearth to hearth", x.send(0, 1), 0);
        x.undo();
        due("12 back at a", x.stool(0, 5), 0);
        x.undo();
        due("12 not called", x.stool(1, 5), 1);
    }

    private void imagesAtTheEdge() {
        FaithfulStools x = told("hearth a at 0 heavy 0; stool x at 0 strong 9; wears 0;");
        for (int box = 0; box < 3; box++) {
            due("44 nothing was kept", x.back(box), -1);
        }
        for (int none : new int[] {-1, 3, LOW, HIGH}) {
            due("43 none such", x.image(none), -1);
            due("44 none such", x.back(none), -1);
        }
        for (int box = 0; box < 3; box++) {
            due("43 day", x.image(box), box);
            x.evening();
        }
        for (int box = 2; box >= 0; box--) {
            due("44 day", x.back(box), box);
            due("44 day", x.about(4), box);
            due("45 no acts", x.about(6), 0);
        }
        due("44 kept still", x.back(2), 2);
        x.evening();
        due("43 kept anew", x.image(2), 3);
        x.back(0);
        due("44 the later one", x.back(2), 3);
        due("4 a fault", tell(x, "$"), -1);
        due("44 all stays", x.back(1), 1);
        due("4 anew", tell(x, "hearth a at 0 heavy 0; stool x at 0 strong 9;"), 1);
        for (int box = 0; box < 3; box++) {
            due("4 boxes are empty", x.back(box), -1);
        }
        due("43 an image of the first day", x.image(1), 0);
        due("44 only that one", x.back(0), -1);
        due("44 that one", x.back(1), 0);
    }

    private void imagesAreWhole() {
        FaithfulStools x = told("hearth a at 0 heavy 10 room 5; hearth b at 0 heavy 30; stool v at 0 strong 19 dent 1; stool w at 0 strong 29 dent 2;"
            + "stool x at 0 strong 39 dent 3; stool y at 0 strong 49 dent 4; stool z at 0 strong 59 dent 5; draw 11;");
        for (int s = 0; s < 4; s++) {
            x.send(s, 0);
        }
        x.send(4, 1);
        x.evening();
        x.evening();
        int[][] kept = new int[5][];
        for (int s = 0; s < 5; s++) {
            kept[s] = new int[] {x.stool(s, 1), x.stool(s, 3), x.stool(s, 4), x.stool(s, 5)};
        }
        int seed = x.about(5);
        x.image(1);
        x.round(0);
        x.later(4);
        x.dented(1, 1, true);
        x.send(0, 1);
        x.call(4);
        x.evening();
        x.evening();
        due("44 day", x.back(1), 2);
        for (int s = 0; s < 5; s++) {
            due("44 strength " + s, x.stool(s, 1), kept[s][0]);
            due("44 dent " + s, x.stool(s, 3), kept[s][1]);
            due("44 evenings " + s, x.stool(s, 4), kept[s][2]);
            due("44 sent " + s, x.stool(s, 5), kept[s][3]);
        }
        due("44 seed", x.about(5), seed);
        due("44 the time is not kept", x.about(9), 4);
        due("44 what is felt is not kept", x.about(8), 1);
        due("44 what lies there stays", x.about(12), 5);
        x.evening();
        x.undo();
        due("12 to the image", x.about(5), seed);
        due("12 not beyond it", x.undo(), false);
    }
}
