/** The edges of what can be asked: section 3 of the document, promises 6, 7, 14 to 35 and 45. */
public final class QuestionEdgesTest extends Checks {

    public static void main(String[] args) {
        QuestionEdgesTest t = new QuestionEdgesTest();
        t.hearthsAndStools();
        t.savedAtTheEdge();
        t.walks();
        t.roundOfNothing();
        t.roundByMost();
        t.roundByLeastWalk();
        t.roundByOrder();
        t.roundAsThereIsRoom();
        t.serviceEdges();
        t.serviceTies();
        t.teamEdges();
        t.lastsEdges();
        t.soonEdges();
        t.changeEdges();
        t.guestsRoom();
        t.guestsRests();
        t.coverEdges();
        t.pilgrimEdges();
        t.willAndStrength();
        t.graceEdges();
        t.easiestEdges();
        t.forlornEdges();
        t.nearestEdges();
        t.lawEdges();
        t.schismEdges();
        t.oddsEdges();
        t.liesTill();
        t.aboutEdges();
        t.close("QuestionEdgesTest");
    }

    private static String hearths(int count, String rest) {
        StringBuilder b = new StringBuilder();
        for (int i = 0; i < count; i++) {
            b.append("hearth ").append((char) ('a' + i)).append(rest);
        }
        return b.toString();
    }

    private static String stools(int count, String rest) {
        return hearths(count, rest).replace("hearth", "stool");
    }

    private void hearthsAndStools() {
        for (int count = 0; count <= 5; count++) {
            FaithfulStools x = told(hearths(count + 1, " at 9 heavy 8;") + stools(count, " at 7 strong 6;"));
            for (int i = -2; i <= 8; i++) {
                due("6 hearth " + i + " of " + (count + 1), x.hearth(i, 1), i >= 0 && i <= count ? 8 : -1);
                due("7 stool " + i + " of " + count, x.stool(i, 1), i >= 0 && i < count ? 6 : -2);
            }
        }
        FaithfulStools x = told(hearths(6, " at 9 heavy 8 room 5 warm 7;") + stools(5, " at 7 strong 6 creed 3 dent 4;"));
        int[] hearth = {9, 8, 5, 7, 0, 0};
        int[] stool = {7, 6, 3, 4, 0, -1, 0};
        for (int what = -2; what <= 9; what++) {
            due("6 what " + what, x.hearth(5, what), what >= 0 && what < 6 ? hearth[what] : -1);
            due("7 what " + what, x.stool(4, what), what >= 0 && what < 7 ? stool[what] : -2);
        }
        for (int none : new int[] {LOW, HIGH}) {
            due("6 what " + none, x.hearth(0, none), -1);
            due("7 what " + none, x.stool(0, none), -2);
        }
    }

    /** As many EVENINGS as saves tells. */
    private void savedAtTheEdge() {
        for (int saves : new int[] {1, 2, 7, 60}) {
            FaithfulStools x = told("hearth a at 0 heavy 0; stool x at 0 strong 9; stool y at 0 strong 9;" + (saves == 7 ? "" : "saves " + saves + ";"));
            x.send(1, 0);
            for (int n = 0; n <= saves + 1; n++) {
                due("27 behind " + n + " of " + saves, x.saved(), n >= saves ? 2 : 0);
                due("7 behind " + n + " of " + saves, x.stool(1, 6), n >= saves ? 1 : 0);
                due("7 the idle", x.stool(0, 6), 0);
                x.evening();
            }
        }
    }

    private void walks() {
        FaithfulStools x = told("hearth a at 99 heavy 0 room 5; hearth b at 0 heavy 0 room 5; hearth c at 40 heavy 0;" + stools(5, " at 0 strong 9;"));
        due("15 nobody is sent", x.walk(), 0);
        for (int s = 0; s < 5; s++) {
            x.send(s, 0);
            due("15 together", x.walk(), 99 * (s + 1));
        }
        x.call(2);
        due("15 one fewer", x.walk(), 396);
        x.send(3, 1);
        due("15 no way at all", x.walk(), 297);
        x.send(3, 2);
        due("15 another way", x.walk(), 337);
        // They walk whether they count, break or quarrel.
        x = told("hearth a at 50 heavy 99 room 2; stool x at 40 strong 1; stool y at 80 strong 1 creed 1;");
        x.send(0, 0);
        due("15 he breaks", x.walk(), 10);
        x.send(1, 0);
        due("15 they quarrel", x.walk(), 40);
    }

    private void roundOfNothing() {
        FaithfulStools x = new FaithfulStools();
        due("16 nothing", x.round(0), 0);
        due("16 nothing", x.round(1), 0);
        lie("16 no stools", x);
        x = told(hearths(6, " at 0 heavy 0;"));
        due("16 no stools", x.round(0), 0);
        lie("16 no stools", x);
        for (int n = 1; n <= 5; n++) {
            x = told(stools(n, " at 0 strong 9;"));
            due("16 no hearths", x.round(0), 0);
            due("16 no hearths", x.round(1), 0);
            due("16 no hearths", x.about(12), n);
            for (int s = 0; s < n; s++) {
                due("16 nowhere", x.lies(s), -1);
            }
            due("16 no more", x.lies(n), -2);
        }
        // Nobody can count: the least walk is none, and of those without any the hearths come ahead of none.
        x = told("hearth a at 5 heavy 9; hearth b at 5 heavy 9; stool x at 5 strong 1; stool y at 6 strong 1;");
        due("16 nobody counts", x.round(0), 0);
        due("16 nobody walks", x.round(1), 0);
        lie("16 x is at home at a", x, 0, -1);
    }

    private void roundByMost() {
        // Just as strong as the feet are heavy.
        FaithfulStools x = told("hearth a at 0 heavy 9; stool x at 90 strong 9; stool y at 0 strong 8;");
        due("16 one counts, however far", x.round(0), 1);
        due("16 walk", x.round(1), 90);
        lie("16", x, 0, -1);
        // More by two who quarrel nowhere than by one near.
        x = told("hearth a at 0 heavy 9 room 2; hearth b at 99 heavy 9; stool x at 0 strong 9; stool y at 0 strong 9 creed 1;");
        due("16 unlike creeds part", x.round(0), 2);
        due("16 walk", x.round(1), 99);
        lie("16 x stays at a", x, 0, 1);
        // Five together count who could not alone.
        x = told("hearth a at 99 heavy 45 room 5;" + stools(5, " at 0 strong 9;"));
        due("16 five", x.round(0), 5);
        due("16 the longest walk there is", x.round(1), 495);
        lie("16 five", x, 0, 0, 0, 0, 0);
        x = told("hearth a at 99 heavy 46 room 5;" + stools(5, " at 0 strong 9;"));
        due("16 none", x.round(0), 0);
        due("16 none walks", x.round(1), 0);
        lie("16 none", x, -1, -1, -1, -1, -1);
        // By what is now: worn ones do not count.
        x = told("hearth a at 0 heavy 9; stool x at 0 strong 9; stool y at 50 strong 9;");
        x.send(0, 0);
        x.evening();
        due("16 the other one now", x.round(1), 50);
        lie("16 the other one now", x, -1, 0);
        x.undo();
        due("16 as before", x.round(1), 0);
    }

    private void roundByLeastWalk() {
        FaithfulStools x = told("hearth a at 0 heavy 5; hearth b at 10 heavy 5; stool x at 9 strong 9; stool y at 1 strong 9;");
        due("16 two", x.round(0), 2);
        due("16 crosswise is shorter", x.round(1), 2);
        lie("16 crosswise", x, 1, 0);
        // One who does not help stays where he is.
        x = told("hearth a at 0 heavy 5 room 2; stool x at 1 strong 9; stool y at 1 strong 0;");
        due("16 one", x.round(0), 1);
        due("16 no walk in vain", x.round(1), 1);
        lie("16", x, 0, -1);
    }

    /** Of like ones the first: STOOL by STOOL, HEARTHS, then none. */
    private void roundByOrder() {
        FaithfulStools x = told(hearths(6, " at 5 heavy 5;") + stools(5, " at 5 strong 9;"));
        due("16 five", x.round(0), 5);
        lie("16 the first hearths", x, 0, 1, 2, 3, 4);
        x = told(hearths(6, " at 5 heavy 9;") + "stool v at 5 strong 8; stool w at 5 strong 9; stool x at 5 strong 9; stool y at 5 strong 9;"
            + "stool z at 5 strong 9;");
        due("16 four", x.round(0), 4);
        lie("16 he who breaks at home goes first", x, 0, 1, 2, 3, 4);
        x = told("hearth a at 4 heavy 9; hearth b at 6 heavy 9; stool x at 5 strong 9;");
        lie("16 nothing yet", x);
        due("16 like ways", x.round(1), 1);
        lie("16 the first hearth", x, 0);
        x = told("hearth a at 5 heavy 9; stool x at 4 strong 9; stool y at 6 strong 9;");
        due("16 like ones", x.round(1), 1);
        lie("16 the first stool", x, 0, -1);
        // A quarrel at home costs nothing, but whoever counts is lost by it.
        x = told("hearth a at 5 heavy 1 room 2; stool x at 5 strong 9; stool y at 5 strong 9 creed 1;");
        due("16 one", x.round(0), 1);
        lie("16 x, then none", x, 0, -1);
        x = told("hearth a at 5 heavy 1 room 3; stool x at 5 strong 0; stool y at 5 strong 0 creed 1; stool z at 5 strong 0 creed 2;");
        due("16 nobody counts", x.round(0), 0);
        lie("16 so all are there", x, 0, 0, 0);
    }

    /** As there is room. */
    private void roundAsThereIsRoom() {
        for (int room = 1; room <= 5; room++) {
            FaithfulStools x = told("hearth a at 7 heavy 0 room " + room + ";" + stools(5, " at 3 strong 0;"));
            due("16 as many as there is room", x.round(0), room);
            due("16 walk", x.round(1), 4 * room);
            int[] places = new int[5];
            for (int s = 0; s < 5; s++) {
                places[s] = s < room ? 0 : -1;
            }
            lie("16 room " + room, x, places);
            // Anew: whoever is sent now takes no room.
            x.send(4, 0);
            due("16 anew", x.round(0), room);
            lie("16 anew", x, places);
        }
        // At home nobody counts, but there is room for so many only.
        for (int room = 1; room <= 5; room++) {
            FaithfulStools x = told("hearth z at 90 heavy 99 room 5; hearth a at 7 heavy 99 room " + room + ";" + stools(5, " at 7 strong 1;"));
            due("16 nobody counts", x.round(0), 0);
            int[] places = new int[5];
            for (int s = 0; s < 5; s++) {
                places[s] = s < room ? 1 : -1;
            }
            lie("16 room at home " + room, x, places);
        }
        // Room at one hearth is none at another.
        FaithfulStools x = told("hearth a at 90 heavy 0 room 3; hearth b at 7 heavy 0;" + stools(4, " at 7 strong 1;"));
        due("16 all four", x.round(0), 4);
        due("16 three go far", x.round(1), 3 * 83);
        lie("16 three go far", x, 0, 0, 0, 1);
        due("17 one goes far", x.service(), 83);
        lie("17 one goes far", x, 0, 1, -1, -1);
        // Six hearths and nobody who counts at any: the last sending of all.
        x = told(hearths(6, " at 90 heavy 9;") + stools(5, " at 7 strong 1;"));
        due("16 nobody counts", x.round(0), 0);
        due("16 nobody walks", x.round(1), 0);
        lie("16 nobody is sent", x, -1, -1, -1, -1, -1);
    }

    private void serviceEdges() {
        FaithfulStools x = new FaithfulStools();
        due("17 nothing", x.service(), 0);
        lie("17 nothing", x);
        x = told(stools(3, " at 0 strong 9;"));
        due("17 no hearths", x.service(), 0);
        lie("17 no hearths", x, -1, -1, -1);
        x = told("hearth a at 0 heavy 0;");
        due("17 no stools", x.service(), -1);
        lie("17 no stools", x);
        for (int count = 1; count <= 6; count++) {
            x = told(hearths(count, " at 9 heavy 9 room 2;") + stools(5, " at 0 strong 9;"));
            due("17 five for " + count, x.service(), count <= 5 ? 9 * count : -1);
            due("17 five for " + count, x.about(12), count <= 5 ? 5 : 0);
            due("17 the first are sent", x.lies(0), count <= 5 ? 0 : -2);
            due("17 the last one is, if he must", x.lies(4), count == 5 ? 4 : count == 6 ? -2 : -1);
        }
        x = told("hearth a at 0 heavy 9; stool x at 0 strong 9;");
        due("17 just as strong", x.service(), 0);
        lie("17 just as strong", x, 0);
        x.send(0, 0);
        x.evening();
        due("17 not as strong now", x.service(), -1);
        lie("17 nothing lies there", x);
        // Two of unlike creeds could bear it together, but for the quarrel.
        x = told("hearth a at 0 heavy 10 room 2; stool x at 0 strong 5; stool y at 0 strong 5 creed 1;");
        due("17 nobody may quarrel", x.service(), -1);
        x = told("hearth a at 0 heavy 10 room 2; stool x at 0 strong 5; stool y at 0 strong 5;");
        due("17 two", x.service(), 0);
        lie("17 two", x, 0, 0);
        x = told("hearth a at 0 heavy 10 room 1; stool x at 0 strong 5; stool y at 0 strong 5;");
        due("17 no room for two", x.service(), -1);
        x = told("hearth a at 0 heavy 10 room 2; stool x at 0 strong 5; stool y at 0 strong 4;");
        due("17 nobody may break", x.service(), -1);
        x = told("hearth a at 99 heavy 45 room 5;" + stools(5, " at 0 strong 9;"));
        due("17 the longest walk there is", x.service(), 495);
        lie("17 five", x, 0, 0, 0, 0, 0);
    }

    private void serviceTies() {
        FaithfulStools x = told("hearth a at 4 heavy 9; hearth b at 6 heavy 9; stool x at 5 strong 9; stool y at 5 strong 9; stool z at 5 strong 9;");
        due("17 least walk", x.service(), 2);
        lie("17 the first", x, 0, 1, -1);
        // Hearths come ahead of none, if it is no farther.
        x = told("hearth a at 5 heavy 9 room 3; stool x at 5 strong 9; stool y at 5 strong 9; stool z at 6 strong 9;");
        due("17 no walk", x.service(), 0);
        lie("17 all who are at home", x, 0, 0, -1);
        // Of unlike creeds only the first one may be at home there.
        x = told("hearth a at 5 heavy 9 room 3; stool x at 5 strong 9; stool y at 5 strong 9 creed 1; stool z at 5 strong 9;");
        due("17 no walk", x.service(), 0);
        lie("17 those of one creed", x, 0, -1, 0);
        // Whoever would break at home must stay away.
        x = told("hearth a at 5 heavy 9; hearth b at 8 heavy 9; stool x at 5 strong 8; stool y at 6 strong 9; stool z at 6 strong 9;");
        due("17 past the weak one", x.service(), 3);
        lie("17 past the weak one", x, -1, 0, 1);
    }

    private void teamEdges() {
        FaithfulStools x = told("hearth a at 0 heavy 0;" + stools(2, " at 0 strong 0;"));
        due("18 one at least", x.team(0, 0), 1);
        due("18 the least", x.team(0, 1), 1);
        x = told("hearth a at 0 heavy 0;");
        due("18 no stools", x.team(0, 0), -1);
        due("18 no stools", x.team(0, 1), -1);
        // Ten together: twice five, not five and four; of like ones the least set: x and y (6) ahead of w and z (9).
        x = told("hearth a at 0 heavy 10 room 2; stool w at 0 strong 5; stool x at 0 strong 5 creed 1; stool y at 0 strong 5 creed 1; stool z at 0 strong 5;");
        due("18 two", x.team(0, 0), 2);
        due("18 the least set", x.team(0, 1), 6);
        x = told("hearth a at 0 heavy 10 room 2; stool w at 0 strong 5; stool x at 0 strong 4; stool y at 0 strong 4; stool z at 0 strong 5;");
        due("18 just as strong", x.team(0, 1), 9);
        for (int room = 1; room <= 5; room++) {
            x = told("hearth a at 0 heavy 0; hearth b at 0 heavy 20 room " + room + ";" + stools(5, " at 0 strong 5;"));
            due("18 four, if there is room", x.team(1, 0), room >= 4 ? 4 : -1);
            due("18 which", x.team(1, 1), room >= 4 ? 15 : -1);
            // Who is sent there now takes no room: just these are sent.
            x.send(4, 1);
            due("18 just these", x.team(1, 1), room >= 4 ? 15 : -1);
        }
        x = told("hearth a at 0 heavy 25 room 5;" + stools(5, " at 0 strong 5;"));
        due("18 all five", x.team(0, 0), 5);
        due("18 all five", x.team(0, 1), 31);
        x = told("hearth a at 0 heavy 26 room 5;" + stools(5, " at 0 strong 5;"));
        due("18 not by five", x.team(0, 0), -1);
        // The fewest come ahead of the least set.
        x = told("hearth a at 0 heavy 10 room 5; stool x at 0 strong 5; stool y at 0 strong 5; stool z at 0 strong 10 creed 2;");
        due("18 one alone", x.team(0, 0), 1);
        due("18 one alone", x.team(0, 1), 4);
        for (int none : new int[] {-1, 1, LOW, HIGH}) {
            due("18 no hearth", x.team(none, 0), -1);
        }
        for (int none : new int[] {-1, 2, LOW, HIGH}) {
            due("18 another what", x.team(0, none), -1);
        }
        // By what is now.
        x.send(2, 0);
        x.evening();
        due("18 he is worn", x.team(0, 1), 3);
        // More who bear more each: by the formula, two are worse than one, and three best of all.
        x = told("hearth a at 0 heavy 1 room 3;" + stools(3, " at 0 strong 5;") + "bears (many<3)*9;");
        due("18 three alone", x.team(0, 0), 3);
        due("18 three alone", x.team(0, 1), 7);
    }

    /** 0 .. 60; NONE if it is more. */
    private void lastsEdges() {
        for (int strong = 0; strong <= 70; strong++) {
            FaithfulStools x = told("hearth a at 0 heavy 1; stool x at 0 strong " + strong + ";");
            due("19 till there is no strength", x.lasts(0, 0), strong <= 60 ? strong : -1);
        }
        for (int day = 59; day <= 62; day++) {
            FaithfulStools x = told("hearth a at 0 heavy 1; stool x at 0 strong 0; bears day>" + (day - 1) + ";");
            due("19 till a day", x.lasts(0, 0), day <= 60 ? day : -1);
            x.evening();
            due("19 from the day it is", x.lasts(0, 0), day <= 61 ? day - 1 : -1);
        }
        FaithfulStools x = told("hearth a at 0 heavy 0; hearth b at 0 heavy 9 room 2; stool x at 0 strong 0; stool y at 0 strong 9; cold 100;");
        due("19 for ever", x.lasts(0, 0), -1);
        due("19 not at all", x.lasts(0, 1), 0);
        due("19 no cold", x.lasts(1, 1), 1);
        x.send(0, 1);
        due("19 alone, whoever is there", x.lasts(1, 1), 1);
        // By the dent: 10 and a fifth more each time.
        x = told("hearth a at 0 heavy 10; stool x at 0 strong 14; bears heavy+dent; wears 0;");
        due("19 dents go on", x.lasts(0, 0), 3);
        x = told("hearth a at 0 heavy 10; stool x at 0 strong 9;");
        for (int none : new int[] {-1, 1, LOW, HIGH}) {
            due("19 no stool", x.lasts(none, 0), -1);
            due("19 no hearth", x.lasts(0, none), -1);
        }
    }

    /** 0 .. 60; 0: he is SAVED now; NONE if not so in these. */
    private void soonEdges() {
        for (int saves : new int[] {1, 2, 59, 60, 61, 62, 99}) {
            FaithfulStools x = told("hearth a at 0 heavy 0; stool x at 0 strong 9; saves " + saves + "; cold 100;");
            due("20 saves " + saves, x.soon(0, 0), saves <= 60 ? saves : -1);
        }
        FaithfulStools x = told("hearth a at 0 heavy 0; hearth b at 0 heavy 99; stool x at 0 strong 9; saves 1;");
        due("20 never there", x.soon(0, 1), -1);
        x.send(0, 0);
        due("20 one", x.soon(0, 0), 1);
        x.evening();
        due("20 saved now", x.soon(0, 0), 0);
        due("20 saved now, wherever", x.soon(0, 1), 0);
        for (int none : new int[] {-1, 1, LOW, HIGH}) {
            due("20 no stool", x.soon(none, 0), -1);
            due("20 no hearth, though he is saved", x.soon(0, none == 1 ? 2 : none), -1);
        }
        // He breaks on some days, and that wears him no evening.
        for (int day = 57; day <= 61; day++) {
            x = told("hearth a at 0 heavy 0; stool x at 0 strong 9; saves 2; bears (day<" + day + ")*99;");
            due("20 breaks till " + day, x.soon(0, 0), day <= 58 ? day + 2 : -1);
        }
        x = told("hearth a at 0 heavy 4; stool x at 0 strong 6; saves 3;");
        due("20 just three", x.soon(0, 0), 3);
        x = told("hearth a at 0 heavy 4; stool x at 0 strong 6; saves 4;");
        due("20 breaks ahead of the fourth", x.soon(0, 0), -1);
    }

    private void changeEdges() {
        FaithfulStools x = new FaithfulStools();
        for (int what = -1; what <= 3; what++) {
            due("21 nobody", x.change(what), -1);
        }
        x = told("hearth a at 0 heavy 9; hearth b at 0 heavy 5; stool x at 0 strong 5;");
        x.send(0, 0);
        due("21 one alone", x.change(0), -1);
        x = told("hearth a at 0 heavy 9; hearth b at 0 heavy 5; stool w at 0 strong 5; stool x at 0 strong 5; stool y at 0 strong 9; stool z at 0 strong 9;");
        due("21 all nowhere", x.change(0), -1);
        x.send(0, 0);
        due("21 one is sent to none", x.change(0), 0);
        due("21 the first other", x.change(1), 2);
        due("21 how many", x.change(2), 1);
        x.send(3, 1);
        due("21 one more", x.change(0), 0);
        due("21 the first of two who would do", x.change(1), 2);
        due("21 how many", x.change(2), 2);
        for (int none : new int[] {-1, 3, LOW, HIGH}) {
            due("21 another what", x.change(none), -1);
        }
        x.call(0);
        x.send(2, 0);
        due("21 as many as can be", x.change(2), -1);
        // Most, not the first that is more: w and y have one more, w and z two.
        x = told("hearth a at 0 heavy 0 warm 1; hearth b at 0 heavy 0 warm 2; stool w at 0 strong 0 dent 2; stool y at 0 strong 0 dent 1;"
            + "stool z at 0 strong 0 dent 1; bears not warm=dent;");
        x.send(0, 0);
        x.send(2, 1);
        due("21 the first", x.change(0), 0);
        due("21 the one by whom both count", x.change(1), 2);
        due("21 how many", x.change(2), 2);
        // Like ones: 1 and 2 ahead of 1 and 3, 0 ahead of both.
        x = told("hearth a at 0 heavy 9; hearth b at 0 heavy 9; stool w at 0 strong 1; stool x at 0 strong 1; stool y at 0 strong 9; stool z at 0 strong 9;");
        x.send(1, 0);
        due("21 the lesser number", x.change(0), 1);
        due("21 the other one", x.change(1), 2);
        x.send(0, 1);
        due("21 the lesser number", x.change(0), 0);
        due("21 the other one", x.change(1), 2);
        // Just as many is not more: x would count and y no longer.
        x = told("hearth a at 0 heavy 9; hearth b at 0 heavy 5; stool x at 0 strong 9; stool y at 0 strong 9;");
        x.send(0, 0);
        due("21 as many", x.change(0), -1);
        // Two who quarrel at one hearth stay there both.
        x = told("hearth a at 0 heavy 9 room 2; hearth b at 0 heavy 9 room 2; stool w at 0 strong 9; stool x at 0 strong 9 creed 1;"
            + "stool y at 0 strong 9; stool z at 0 strong 9 creed 1;");
        x.send(0, 0);
        x.send(1, 0);
        due("21 none by those two, one by a third", x.change(2), 2);
        due("21 the first", x.change(0), 0);
        due("21 with another of the creed", x.change(1), 3);
        x.send(2, 1);
        x.send(3, 1);
        due("21 all four", x.change(2), 4);
        due("21 the first", x.change(0), 0);
        due("21 the other", x.change(1), 3);
    }

    /** At one, if there is room for two; else neither COUNTS there. */
    private void guestsRoom() {
        for (int room = 1; room <= 5; room++) {
            FaithfulStools x = told("hearth a at 5 heavy 4 room " + room + "; hearth b at 6 heavy 4 room " + room + "; stool x at 5 strong 9;"
                + "stool y at 5 strong 9;");
            due("22 room " + room, x.guests(0, 1), room == 1 ? 2 : 1);
            if (room == 1) {
                lie("22 apart", x, 0, 1);
            } else {
                lie("22 together", x, 0, 0);
            }
            // Others are sent nowhere, and so take no room.
            x.send(0, 0);
            due("22 all the same", x.guests(1, 0), room == 1 ? 2 : 1);
        }
        FaithfulStools x = told("hearth a at 5 heavy 4 room 2; stool x at 0 strong 9; stool y at 9 strong 9 creed 1;");
        due("22 one hearth: they quarrel and can't go elsewhere", x.guests(0, 1), 1);
        lie("22 one hearth", x, 0, 0);
        x = told("hearth a at 5 heavy 10 room 2; hearth b at 9 heavy 5; stool x at 5 strong 5; stool y at 5 strong 4;");
        // x counts at a with y, or at b; y counts nowhere, so he goes the less way.
        due("22 the weak one helps", x.guests(0, 1), 1);
        lie("22 the weak one helps", x, 0, 0);
        due("22 the other way", x.guests(1, 0), 1);
        lie("22 the other way", x, 0, 0);
    }

    private void guestsRests() {
        for (int count = 1; count <= 6; count++) {
            FaithfulStools x = told(hearths(count, " at 5 heavy 4;") + stools(2, " at 5 strong 9;"));
            due("22 apart at " + count, x.guests(0, 1), count == 1 ? 1 : count * (count - 1));
            lie("22 apart at " + count, x, 0, count == 1 ? 0 : 1);
            x = told(hearths(count, " at 5 heavy 4 room 2;") + stools(2, " at 5 strong 9;"));
            due("22 all of " + count, x.guests(0, 1), count * count);
            lie("22 the first of all", x, 0, 0);
            x = told(hearths(count, " at 5 heavy 9;") + stools(2, " at 5 strong 8;"));
            due("22 all of " + count + " though none counts", x.guests(1, 0), count * count);
        }
        // Nobody counts: each rests at what is nearest to him alone.
        FaithfulStools x = told("hearth a at 5 heavy 99; hearth b at 50 heavy 99; hearth c at 95 heavy 99; stool x at 99 strong 1; stool y at 0 strong 1;");
        due("22 the nearest", x.guests(0, 1), 1);
        lie("22 the nearest", x, 2, 0);
        due("22 the other way", x.guests(1, 0), 1);
        lie("22 the other way", x, 0, 2);
        // To count far away is better than a less way.
        x = told("hearth a at 0 heavy 9; hearth b at 99 heavy 1 room 2; stool x at 0 strong 1; stool y at 0 strong 9;");
        due("22 far away", x.guests(0, 1), 1);
        lie("22 far away", x, 1, 0);
        x.guests(0, 0);
        lie("22 both are one", x);
        x.guests(0, 1);
        for (int none : new int[] {-1, 2, LOW, HIGH}) {
            due("22 no first", x.guests(none, 1), -1);
            due("22 no other", x.guests(0, none), -1);
            due("22 neither", x.guests(none, none), -1);
            lie("22 nothing", x);
        }
        x = told(stools(2, " at 5 strong 9;"));
        due("22 no hearths", x.guests(0, 1), -1);
        lie("22 no hearths", x);
    }

    private void coverEdges() {
        FaithfulStools x = new FaithfulStools();
        due("23 nothing", x.cover(0), 0);
        due("23 nothing", x.cover(1), 0);
        x = told(hearths(6, " at 0 heavy 9;"));
        due("23 no stools", x.cover(0), 0);
        due("23 no stools", x.cover(1), 0);
        x = told(hearths(6, " at 0 heavy 9;") + stools(5, " at 0 strong 8;"));
        due("23 nobody could", x.cover(0), 0);
        due("23 nobody could", x.cover(1), 0);
        x = told(hearths(6, " at 0 heavy 9;") + stools(5, " at 0 strong 9;"));
        due("23 any", x.cover(0), 1);
        due("23 the least set", x.cover(1), 1);
        // Each stool could at the hearth just as warm as he is dented: five at five of the six.
        StringBuilder b = new StringBuilder();
        for (int i = 0; i < 6; i++) {
            b.append("hearth ").append((char) ('a' + i)).append(" at 0 heavy 0 warm ").append(i).append(";");
        }
        for (int i = 0; i < 5; i++) {
            b.append("stool ").append((char) ('a' + i)).append(" at 0 strong 0 dent ").append(i + 1).append(";");
        }
        x = told(b + "bears not warm=dent;");
        due("23 five", x.cover(0), 5);
        due("23 five", x.cover(1), 62);
        // Two do; of like ones the least set: b and c (6) ahead of a and d (9).
        x = told("hearth a at 0 heavy 0 warm 1; hearth b at 0 heavy 0 warm 2; hearth c at 0 heavy 0 warm 3; hearth d at 0 heavy 0 warm 4;"
            + "stool w at 0 strong 0 dent 1; stool x at 0 strong 0 dent 2; bears not ((warm=1 or warm=2) and dent=1 or (warm=3 or warm=4) and dent=2);");
        due("23 two", x.cover(0), 2);
        due("23 the least set of two", x.cover(1), 5);
        x = told("hearth a at 0 heavy 0 warm 1; hearth b at 0 heavy 0 warm 2; hearth c at 0 heavy 0 warm 3; hearth d at 0 heavy 0 warm 4;"
            + "stool w at 0 strong 0 dent 1; stool x at 0 strong 0 dent 2; stool y at 0 strong 0 dent 3;"
            + "bears not ((warm<3) and dent=1 or warm>2 and dent=2 or (warm=1 or warm=3)<(dent=3));");
        due("23 two", x.cover(0), 2);
        due("23 b and c, not a and d", x.cover(1), 6);
        for (int none : new int[] {-1, 2, LOW, HIGH}) {
            due("23 another what", x.cover(none), -1);
        }
        // By what is now, alone, as if nobody were sent.
        x = told("hearth a at 0 heavy 9; hearth b at 0 heavy 5; stool x at 0 strong 9;");
        due("23 either", x.cover(1), 1);
        x.send(0, 0);
        x.evening();
        due("23 the light one now", x.cover(1), 2);
    }

    private void pilgrimEdges() {
        int[][] ways = {{0, 99}, {99, 99}, {49, 148}, {50, 148}, {1, 100}, {98, 100}};
        for (int[] w : ways) {
            FaithfulStools x = told("hearth a at 99 heavy 0; hearth b at 0 heavy 0; hearth c at 33 heavy 0; stool x at " + w[0] + " strong 0;");
            due("24 from " + w[0], x.pilgrim(0), w[1]);
        }
        FaithfulStools x = told(hearths(6, " at 30 heavy 0;") + "stool x at 30 strong 0; stool y at 0 strong 0; stool z at 99 strong 0;");
        due("24 there already", x.pilgrim(0), 0);
        due("24 from below", x.pilgrim(1), 30);
        due("24 from above", x.pilgrim(2), 69);
        for (int none : new int[] {-1, 3, LOW, HIGH}) {
            due("24 none such", x.pilgrim(none), -1);
        }
        x = told("stool x at 99 strong 0;");
        due("24 without hearths", x.pilgrim(0), 0);
        due("24 none such, without hearths", x.pilgrim(1), -1);
        due("24 none such, without stools", new FaithfulStools().pilgrim(0), -1);
    }

    /** n 0 .. 60. */
    private void willAndStrength() {
        FaithfulStools x = told("hearth a at 0 heavy 0; stool x at 0 strong 99; stool y at 0 strong 9;");
        x.send(0, 0);
        for (int n = -3; n <= 64; n++) {
            boolean fine = n >= 0 && n <= 60;
            due("25 behind " + n, x.will(0, n), fine ? n : -1);
            due("26 behind " + n, x.strength(0, n), fine ? 99 - n : -1);
            due("25 the idle", x.will(1, n), fine ? 0 : -1);
            due("26 the idle", x.strength(1, n), fine ? 9 : -1);
        }
        // By the SEED, but no cold for the strength. From 0: 71, 798, 397, 460, 91, 538: all but the 98 and the 97 are below 95.
        x = told("hearth a at 0 heavy 0; stool x at 0 strong 99; cold 95;");
        x.send(0, 0);
        int[] evenings = {0, 0, 1, 2, 2, 2, 2};
        for (int n = 0; n < evenings.length; n++) {
            due("25 by the seed, behind " + n, x.will(0, n), evenings[n]);
            due("26 no cold, behind " + n, x.strength(0, n), 99 - n);
        }
        // What was foretold comes.
        for (int n = 0; n < evenings.length; n++) {
            due("25 has come", x.stool(0, 4), evenings[n]);
            x.evening();
        }
        // Who breaks, quarrels or rests goes on doing so, if all stay sent.
        x = told("hearth a at 0 heavy 99; hearth b at 0 heavy 1 room 2; stool w at 0 strong 80; stool x at 0 strong 9;"
            + "stool y at 0 strong 9 creed 1; stool z at 0 strong 9;");
        x.send(3, 0);
        x.evening();
        x.call(3);
        x.send(0, 0);
        x.send(1, 1);
        x.send(2, 1);
        int[] broken = {80, 40, 20, 10, 5, 2, 1, 0, 0};
        for (int n = 0; n < broken.length; n++) {
            due("26 breaks on", x.strength(0, n), broken[n]);
            due("26 quarrels on", x.strength(1, n), 9);
            due("26 rests on", x.strength(3, n), Math.min(9, 4 + 2 * n));
            due("25 none counts", x.will(n % 4, n), 0);
        }
    }

    /** Behind how many (0 .. 60) all are SAVED first. */
    private void graceEdges() {
        due("28 nobody", new FaithfulStools().grace(), 0);
        due("28 no stools", told("hearth a at 0 heavy 0;").grace(), 0);
        for (int saves : new int[] {1, 59, 60, 61, 99}) {
            FaithfulStools x = told("hearth a at 0 heavy 0 room 2;" + stools(2, " at 0 strong 9;") + "cold 100; saves " + saves + ";");
            due("28 nobody is sent", x.grace(), -1);
            x.send(0, 0);
            due("28 one is not sent", x.grace(), -1);
            x.send(1, 0);
            due("28 saves " + saves, x.grace(), saves <= 60 ? saves : -1);
        }
        FaithfulStools x = told("hearth a at 0 heavy 0; hearth b at 0 heavy 0;" + stools(2, " at 0 strong 9;") + "saves 2;");
        x.send(0, 0);
        x.evening();
        x.send(1, 1);
        due("28 the last one's", x.grace(), 2);
        x.evening();
        due("28 the last one's", x.grace(), 1);
        x.call(0);
        due("28 who is saved may stay away", x.grace(), 1);
        x.evening();
        due("28 now", x.grace(), 0);
    }

    private void easiestEdges() {
        FaithfulStools x = told("hearth a at 0 heavy 10; hearth b at 0 heavy 9; hearth c at 0 heavy 9; stool w at 0 strong 8;"
            + "stool x at 0 strong 9; stool y at 0 strong 99;");
        due("29 at none", x.easiest(0), -1);
        due("29 just as strong, the first of like ones", x.easiest(1), 1);
        due("29 the least load", x.easiest(2), 1);
        for (int none : new int[] {-1, 3, LOW, HIGH}) {
            due("29 none such", x.easiest(none), -1);
        }
        due("29 no hearths", told("stool x at 0 strong 9;").easiest(0), -1);
        x = told("hearth a at 0 heavy 0; stool x at 0 strong 0;");
        due("29 nothing to bear", x.easiest(0), 0);
        // Alone: though another one is sent there and would help.
        x = told("hearth a at 0 heavy 10 room 2; hearth b at 0 heavy 8; stool x at 0 strong 9; stool y at 0 strong 9;");
        x.send(0, 0);
        x.send(1, 0);
        due("29 alone", x.easiest(0), 1);
        due("29 by what is now", x.easiest(1), 1);
        x = told(hearths(5, " at 0 heavy 99;") + "hearth z at 0 heavy 3; stool x at 0 strong 3;");
        due("29 the last one", x.easiest(0), 5);
    }

    private void forlornEdges() {
        due("30 nothing", new FaithfulStools().forlorn(), 0);
        due("30 no stools", told(hearths(6, " at 0 heavy 0;")).forlorn(), 63);
        due("30 nobody could", told(hearths(6, " at 0 heavy 9;") + stools(5, " at 0 strong 8;")).forlorn(), 63);
        due("30 all could", told(hearths(6, " at 0 heavy 9;") + stools(5, " at 0 strong 9;")).forlorn(), 0);
        FaithfulStools x = told("hearth a at 0 heavy 10 room 2; hearth b at 0 heavy 9; hearth c at 0 heavy 11; stool x at 0 strong 5;"
            + "stool y at 0 strong 9; stool z at 0 strong 10;");
        due("30 the heavy one", x.forlorn(), 4);
        x.send(2, 0);
        x.evening();
        x.call(2);
        due("30 by what is now", x.forlorn(), 5);
        x.evening();
        due("30 rested", x.forlorn(), 4);
        // Two could bear a together, but that is not alone.
        x = told("hearth a at 0 heavy 10 room 2; stool x at 0 strong 5; stool y at 0 strong 5;");
        x.send(0, 0);
        x.send(1, 0);
        due("30 not alone", x.forlorn(), 1);
    }

    private void nearestEdges() {
        due("31 nobody", new FaithfulStools().nearest(0), -1);
        due("31 no hearths", told("stool x at 0 strong 9;").nearest(0), -1);
        FaithfulStools x = told("hearth a at 99 heavy 99; hearth b at 60 heavy 99; hearth c at 40 heavy 99 room 2; hearth d at 0 heavy 99;"
            + "stool x at 50 strong 0; stool y at 50 strong 0; stool z at 99 strong 0;");
        due("31 like ways: the first", x.nearest(0), 1);
        due("31 no way at all", x.nearest(2), 0);
        x.send(1, 1);
        due("31 full: the other one", x.nearest(0), 2);
        x.send(0, 2);
        due("31 room for one more", x.nearest(1), 2);
        x.send(2, 2);
        due("31 both are full", x.nearest(0), 0);
        for (int none : new int[] {-1, 3, LOW, HIGH}) {
            due("31 none such", x.nearest(none), -1);
        }
        x = told("hearth a at 99 heavy 99; hearth b at 0 heavy 99; stool x at 50 strong 0; stool y at 49 strong 0; stool z at 0 strong 0;");
        due("31 one nearer", x.nearest(0), 0);
        due("31 one nearer", x.nearest(1), 1);
        x.send(0, 0);
        x.send(1, 1);
        due("31 none has room", x.nearest(2), -1);
        x.call(1);
        due("31 room again", x.nearest(2), 1);
        x = told(hearths(5, " at 90 heavy 0;") + "hearth z at 80 heavy 0; stool x at 7 strong 1;");
        due("31 the last of six", x.nearest(0), 5);
        x.send(0, 5);
        due("31 the first of the others", x.nearest(0), 0);
    }

    /** -99 .. 99 heavier; 0 at least. */
    private void lawEdges() {
        FaithfulStools x = told("hearth a at 0 heavy 50; stool x at 0 strong 50; bears heavy*(heavy<100)+(heavy>99);");
        due("32 nobody is sent", x.law(0), 0);
        x.send(0, 0);
        for (int n = -103; n <= 103; n++) {
            boolean counts = n <= 0 || n >= 50;
            due("32 " + n + " heavier", x.law(n), n < -99 || n > 99 ? -1 : counts ? 1 : 0);
        }
        due("32 another n", x.law(LOW), -1);
        due("32 another n", x.law(HIGH), -1);
        // 0 at least: 0 makes one, whatever is below does not matter.
        x = told("hearth a at 0 heavy 9; stool x at 0 strong 0; bears not heavy=0;");
        x.send(0, 0);
        due("32 not yet 0", x.law(-8), 0);
        due("32 0", x.law(-9), 1);
        due("32 0 at least", x.law(-10), 1);
        due("32 0 at least", x.law(-99), 1);
        // No bound above: 99 and 99 more.
        x = told("hearth a at 0 heavy 99; stool x at 0 strong 0; bears not heavy=198;");
        x.send(0, 0);
        due("32 198", x.law(99), 1);
        due("32 197", x.law(98), 0);
        // Each hearth, those who quarrel not.
        x = told("hearth a at 0 heavy 5 room 2; hearth b at 0 heavy 6; hearth c at 0 heavy 0 room 2; stool v at 0 strong 5; stool w at 0 strong 5;"
            + "stool x at 0 strong 8; stool y at 0 strong 9; stool z at 0 strong 9 creed 1;");
        x.send(0, 0);
        x.send(1, 0);
        x.send(2, 1);
        x.send(3, 2);
        x.send(4, 2);
        due("32 three", x.law(0), 3);
        due("32 three", x.law(2), 3);
        due("32 two", x.law(3), 2);
        due("32 two", x.law(5), 2);
        due("32 none", x.law(6), 0);
        due("32 never who quarrel", x.law(-99), 3);
    }

    private void schismEdges() {
        due("33 nobody", new FaithfulStools().schisms(), 0);
        due("33 one", told("stool x at 0 strong 0 creed 3;").schisms(), 0);
        due("33 two alike", told(stools(2, " at 0 strong 0;")).schisms(), 0);
        due("33 told or not", told("stool x at 0 strong 0 creed 0; stool y at 0 strong 0;").schisms(), 0);
        due("33 two", told("stool x at 0 strong 0 creed 1; stool y at 0 strong 0;").schisms(), 1);
        due("33 five alike", told(stools(5, " at 0 strong 0 creed 3;")).schisms(), 0);
        due("33 as many as can be", told("stool v at 0 strong 0; stool w at 0 strong 0 creed 1; stool x at 0 strong 0 creed 2;"
            + "stool y at 0 strong 0 creed 3; stool z at 0 strong 0 creed 3;").schisms(), 9);
        due("33 two and three", told("stool v at 0 strong 0; stool w at 0 strong 0; stool x at 0 strong 0 creed 2; stool y at 0 strong 0 creed 2;"
            + "stool z at 0 strong 0 creed 2;").schisms(), 6);
        // Room for one makes no quarrel.
        due("33 rooms", told("hearth a at 0 heavy 0; stool x at 0 strong 0; stool y at 0 strong 0;").schisms(), 0);
    }

    /** n 0 .. 4, in lowest terms (0 of 1). */
    private void oddsEdges() {
        for (int cold = 0; cold <= 100; cold++) {
            FaithfulStools x = told("cold " + cold + ";");
            long upper = 1;
            long lower = 1;
            for (int n = 0; n <= 4; n++) {
                long common = java.math.BigInteger.valueOf(upper).gcd(java.math.BigInteger.valueOf(lower)).longValue();
                due("34 upper of " + cold + " in " + n, x.odds(n, 0), upper / common);
                due("34 lower of " + cold + " in " + n, x.odds(n, 1), lower / common);
                upper *= 100 - cold;
                lower *= 100;
            }
        }
        FaithfulStools x = told("cold 100;");
        due("34 0 of 1", x.odds(1, 0), 0);
        due("34 0 of 1", x.odds(1, 1), 1);
        due("34 none to be cold in", x.odds(0, 0), 1);
        x = told("cold 99;");
        due("34 as little as can be", x.odds(4, 0), 1);
        due("34 as little as can be", x.odds(4, 1), 100000000);
        for (int none : new int[] {-1, 5, LOW, HIGH}) {
            due("34 another n", x.odds(none, 0), -1);
            due("34 another n", x.odds(none, 1), -1);
        }
        for (int none : new int[] {-1, 2, LOW, HIGH}) {
            due("34 another part", x.odds(4, none), -1);
        }
    }

    private void liesTill() {
        FaithfulStools x = new FaithfulStools();
        lie("35 at first", x);
        tell(x, "hearth a at 0 heavy 9; stool x at 0 strong 9; stool y at 0 strong 9; stool z at 0 strong 1;");
        lie("4 nothing lies there", x);
        x.round(0);
        lie("16", x, 0, -1, -1);
        x.send(0, 0);
        x.evening();
        x.undo();
        x.image(0);
        x.back(0);
        x.round(2);
        tell(x, "$");
        lie("35 acts, images, wrong calls and faults leave it", x, 0, -1, -1);
        x.guests(1, 2);
        lie("22", x, 0, 0);
        x.service();
        lie("17", x, 0, -1, -1);
        x.send(0, 0);
        x.evening();
        x.call(0);
        x.send(1, 0);
        x.evening();
        due("17 none is as strong now", x.service(), 0);
        lie("17 the first has rested", x, 0, -1, -1);
        x.guests(0, 0);
        lie("22 behind NONE", x);
        x.round(1);
        due("35 three", x.about(12), 3);
        tell(x, "");
        lie("4 nothing lies there", x);
    }

    private void aboutEdges() {
        FaithfulStools x = new FaithfulStools();
        int[] made = {0, 0, 7, 0, 0, 0, 0, 0, 0, 0, 0, 0, 0};
        for (int what = 0; what < made.length; what++) {
            due("45 made: " + what, x.about(what), made[what]);
        }
        for (int none : new int[] {-1, -2, 13, 14, 100, LOW, HIGH}) {
            due("45 another what", x.about(none), -1);
        }
        // As much of each as can be.
        String sum = "1" + "+1".repeat(29);
        tell(x, hearths(6, " at 0 heavy 0;") + stools(5, " at 0 strong 0;") + "saves 99; cold 100; draw 999; bears " + sum + "; wears " + sum + ";");
        for (int i = 0; i < 45; i++) {
            x.evening();
        }
        x.undo();
        for (int i = 0; i < 31; i++) {
            x.dented(1, 0, true);
        }
        for (int i = 0; i < 101; i++) {
            x.later(1000);
        }
        for (int i = 0; i < 81; i++) {
            x.feed(0, 0, 0, 0, 0);
        }
        x.round(0);
        int[] most = {5, 6, 99, 100, 44, x.about(5), 39, 1, 30, 100000, 1600, 60, 5};
        for (int what = 0; what < most.length; what++) {
            due("45 most: " + what, x.about(what), most[what]);
        }
    }
}
