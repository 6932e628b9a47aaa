/** The edges of what is felt, told and untold: section 4 of the document, promises 36 to 42. */
public final class PastEdgesTest extends Checks {
    private static final String PAST = "hearth a at 0 heavy 5; hearth b at 0 heavy 50; stool x at 0 strong 9;";

    public static void main(String[] args) {
        PastEdgesTest t = new PastEdgesTest();
        t.thirtyAtMost();
        t.eveningsOneToThree();
        t.muchNoughtToNinetyNine();
        t.atLeastOrNot();
        t.untellOnce();
        t.laterAtTheEdge();
        t.knownAtTheEdges();
        t.timeStays();
        t.rowsByHearths();
        t.firstStoolAsTold();
        t.dentsAndStrengthsAtMost();
        t.restOfTheFirst();
        t.sureEdges();
        t.askEdges();
        t.close("PastEdgesTest");
    }

    /** FELT, 30 at most; its number. */
    private void thirtyAtMost() {
        FaithfulStools x = told(PAST);
        for (int i = 0; i < 30; i++) {
            due("36 its number", i % 2 == 0 ? x.dented(1, 0, true) : x.held(1, 0, true), i);
            due("45 felt", x.about(8), i + 1);
        }
        due("36 there are 30", x.dented(1, 0, true), -1);
        due("37 there are 30", x.held(1, 99, true), -1);
        due("40 nothing came of it", x.rows(0), 27);
        due("45 felt", x.about(8), 30);
        due("38 the last one", x.untell(29), true);
        due("38 none such", x.untell(30), false);
        due("36 an untold one is one of the 30", x.dented(1, 0, true), -1);
        due("4 a fault", tell(x, "$"), -1);
        due("36 all stays", x.held(1, 0, true), -1);
        tell(x, PAST);
        due("4 nothing is felt", x.about(8), 0);
        due("38 none such", x.untell(0), false);
        due("36 from 0 again", x.dented(1, 0, true), 0);
        due("38 told anew", x.untell(0), true);
        for (String none : new String[] {"", "hearth a at 0 heavy 1;"}) {
            x = told(none);
            due("36 no stools", x.dented(1, 0, true), -1);
            due("37 no stools", x.held(1, 0, true), -1);
            due("45 nothing is felt", x.about(8), 0);
        }
    }

    private void eveningsOneToThree() {
        FaithfulStools x = told(PAST);
        int number = 0;
        for (int evening = -2; evening <= 6; evening++) {
            boolean fine = evening >= 1 && evening <= 3;
            due("36 evening " + evening, x.dented(evening, 0, true), fine ? number++ : -1);
            due("37 evening " + evening, x.held(evening, 0, true), fine ? number++ : -1);
            due("41 evening " + evening, x.sure(evening, 0), fine ? -2 : -3);
        }
        for (int none : new int[] {LOW, HIGH}) {
            due("36 evening " + none, x.dented(none, 0, true), -1);
            due("37 evening " + none, x.held(none, 0, true), -1);
            due("41 evening " + none, x.sure(none, 0), -3);
        }
        due("45 felt", x.about(8), 6);
        // Each of its own evening: at a behind the first, second or third one.
        for (int evening = 1; evening <= 3; evening++) {
            x = told("hearth a at 0 heavy 5; stool x at 0 strong 9;");
            x.dented(evening, evening, true);
            due("40 at a till the " + evening, x.rows(0), 8 >> evening);
            for (int e = 1; e <= 3; e++) {
                due("41 at a in the " + e, x.sure(e, 0), e <= evening ? 0 : -2);
            }
        }
    }

    private void muchNoughtToNinetyNine() {
        for (int much = -2; much <= 102; much++) {
            FaithfulStools x = told(PAST);
            boolean fine = much >= 0 && much <= 99;
            due("36 dent " + much, x.dented(1, much, true), fine ? 0 : -1);
            due("37 strength " + much, x.held(1, much, false), fine ? 1 : -1);
            due("45 felt", x.about(8), fine ? 2 : 0);
        }
        FaithfulStools x = told(PAST);
        for (int none : new int[] {LOW, HIGH}) {
            due("36 dent " + none, x.dented(1, none, true), -1);
            due("37 strength " + none, x.held(1, none, true), -1);
        }
    }

    /** So much at least, or was not: of each number, one of both is so. */
    private void atLeastOrNot() {
        // Behind the first: 9 and a dent of 50 nowhere, 8 and 51 at a, 4 and 50 at b.
        String text = PAST.replace("strong 9", "strong 9 dent 50");
        for (int much = 0; much <= 99; much++) {
            int dented = much <= 50 ? 3 : much == 51 ? 1 : 0;
            int held = much <= 4 ? 3 : much <= 8 ? 2 : much == 9 ? 1 : 0;
            FaithfulStools x = told(text);
            x.dented(1, much, true);
            due("36 dent of " + much, x.rows(0), 9 * dented);
            x = told(text);
            x.dented(1, much, false);
            due("36 no dent of " + much, x.rows(0), 27 - 9 * dented);
            x = told(text);
            x.held(1, much, true);
            due("37 strength of " + much, x.rows(0), 9 * held);
            x = told(text);
            x.held(1, much, false);
            due("37 no strength of " + much, x.rows(0), 27 - 9 * held);
        }
        FaithfulStools x = told(PAST);
        x.dented(2, 0, false);
        due("40 a dent is 0 at least", x.rows(0), 0);
        x.untell(0);
        x.held(3, 0, false);
        due("40 strength is 0 at least", x.rows(0), 0);
        x.untell(1);
        due("40 all again", x.rows(0), 27);
        x.held(1, 5, true);
        x.held(1, 5, false);
        due("40 both can't be", x.rows(0), 0);
    }

    private void untellOnce() {
        FaithfulStools x = told(PAST);
        for (int none : new int[] {-1, 0, 1, 30, LOW, HIGH}) {
            due("38 nothing is told", x.untell(none), false);
        }
        x.dented(1, 1, true);
        x.held(1, 1, true);
        for (int none : new int[] {-1, 2, 29, 30, LOW, HIGH}) {
            due("38 none such", x.untell(none), false);
        }
        due("38 the first", x.untell(0), true);
        due("38 so already", x.untell(0), false);
        due("38 the other", x.untell(1), true);
        due("38 so already", x.untell(1), false);
        x.later(10);
        due("38 so already, later too", x.untell(0), false);
        due("45 felt all the same", x.about(8), 2);
    }

    /** So much later, 0 .. 1000; not above 100,000. */
    private void laterAtTheEdge() {
        FaithfulStools x = new FaithfulStools();
        for (int none : new int[] {-1, 1001, LOW, HIGH, -1000, 100000}) {
            due("39 another number " + none, x.later(none), -1);
            due("45 nothing is done", x.about(9), 0);
        }
        due("39 now", x.later(0), 0);
        due("39 a little", x.later(1), 1);
        due("39 much", x.later(1000), 1001);
        for (int i = 2; i < 100; i++) {
            x.later(1000);
        }
        due("45 time", x.about(9), 99001);
        due("39 just too much", x.later(1000), -1);
        due("39 nothing is done", x.about(9), 99001);
        due("39 just enough", x.later(999), 100000);
        due("39 no more", x.later(1), -1);
        due("39 no more", x.later(1000), -1);
        due("39 none at all", x.later(0), 100000);
        due("45 time", x.about(9), 100000);
        tell(x, PAST);
        x.dented(1, 1, true);
        due("40 told at the last", x.rows(99999), 27);
        due("40 told at the last", x.rows(100000), 9);
        due("40 and ever after", x.rows(HIGH), 9);
    }

    /** TOLD at k or before, not UNTOLD at k or before. */
    private void knownAtTheEdges() {
        FaithfulStools x = told(PAST);
        x.later(10);
        x.dented(1, 1, true);
        x.later(10);
        x.untell(0);
        x.held(2, 9, true);
        x.later(10);
        // At 10 .. 19: at a first; from 20 on: at a or nowhere, then nowhere, for 9 behind the second.
        for (int k = -1; k <= 40; k++) {
            int rows = k < 10 ? 27 : k < 20 ? 9 : 6;
            due("40 at " + k, x.rows(k), rows);
            due("41 at " + k, x.sure(1, k), k >= 10 && k < 20 ? 0 : -2);
            due("41 at " + k, x.sure(2, k), k >= 20 ? -1 : -2);
            due("42 at " + k, x.ask(0, k), k < 10 ? 1 : k < 20 ? 2 : 3);
            due("42 at " + k, x.ask(1, k), k < 10 ? 9 : k < 20 ? 3 : 2);
        }
        due("40 long ago", x.rows(LOW), 27);
        due("40 long after", x.rows(HIGH), 6);
        due("41 long ago", x.sure(1, LOW), -2);
        due("42 long after", x.ask(1, HIGH), 2);
        // Told and untold at one time it was never known.
        x = told(PAST);
        x.later(5);
        x.dented(1, 99, true);
        x.untell(0);
        for (int k = 4; k <= 6; k++) {
            due("40 never known", x.rows(k), 27);
        }
    }

    /** 4: the TIME stays, nothing is FELT then. */
    private void timeStays() {
        FaithfulStools x = told(PAST);
        x.later(7);
        x.dented(1, 99, true);
        due("40 none", x.rows(7), 0);
        tell(x, PAST);
        due("45 the time stays", x.about(9), 7);
        due("45 nothing is felt", x.about(8), 0);
        due("40 all", x.rows(7), 27);
        x.dented(1, 1, true);
        due("40 not before", x.rows(6), 27);
        due("40 from then on", x.rows(7), 9);
        due("12 it is no act", x.undo(), false);
        x.later(3);
        x.evening();
        x.undo();
        due("12 undo leaves the time", x.about(9), 10);
        due("12 undo leaves what is felt", x.about(8), 1);
        due("39 later", x.later(0), 10);
    }

    private void rowsByHearths() {
        for (int count = 0; count <= 6; count++) {
            StringBuilder b = new StringBuilder();
            for (int h = 0; h < count; h++) {
                b.append("hearth ").append((char) ('a' + h)).append(" at 0 heavy ").append(h).append(";");
            }
            due("40 without stools", told(b.toString()).rows(0), 0);
            FaithfulStools x = told(b + "stool x at 0 strong 9;");
            int each = count + 1;
            due("40 all of " + count, x.rows(0), each * each * each);
            due("41 of " + count, x.sure(2, 0), count == 0 ? -1 : -2);
            due("42 of " + count, x.ask(0, 0), 1);
            due("42 of " + count, x.ask(1, 0), each * each);
        }
        // The last hearth, and nowhere, are places of their own.
        FaithfulStools x = told("hearth a at 0 heavy 0; hearth b at 0 heavy 0; hearth c at 0 heavy 0; hearth d at 0 heavy 0; hearth e at 0 heavy 0;"
            + "hearth f at 0 heavy 5; stool x at 0 strong 9;");
        x.dented(3, 3, true);
        due("40 one", x.rows(0), 1);
        for (int evening = 1; evening <= 3; evening++) {
            due("41 at f", x.sure(evening, 0), 5);
        }
        x = told("hearth a at 0 heavy 0; stool x at 0 strong 9;");
        x.held(1, 9, true);
        x.held(2, 9, true);
        x.held(3, 9, true);
        due("40 one", x.rows(0), 1);
        for (int evening = 1; evening <= 3; evening++) {
            due("41 nowhere", x.sure(evening, 0), -1);
        }
    }

    /** Of the first STOOL (as told), alone, none COLD, from day 0 on. */
    private void firstStoolAsTold() {
        FaithfulStools x = told("hearth a at 0 heavy 6 room 5; stool x at 0 strong 6; stool y at 0 strong 99 creed 1; cold 100;");
        x.held(1, 5, false);
        due("40 he is alone and broke not", x.rows(0), 0);
        x.untell(0);
        x.dented(1, 1, true);
        due("40 it counted, for all the cold", x.rows(0), 4);
        x.send(1, 0);
        x.send(0, 0);
        x.evening();
        x.evening();
        due("40 whatever has come since", x.rows(0), 4);
        x = told("hearth a at 0 heavy 6; stool x at 0 strong 6 dent 3; stool y at 0 strong 6; bears dent*2; wears 0;");
        x.send(0, 0);
        x.evening();
        due("11 now", x.stool(0, 3), 4);
        x.dented(1, 4, true);
        due("40 as told: 6 is a dent more", x.rows(0), 4);
        x.dented(2, 5, true);
        due("40 then 8 is too much", x.rows(0), 0);
        // By the days 0, 1 and 2, whatever day it is.
        for (int day = 0; day <= 3; day++) {
            x = told("hearth a at 0 heavy 5; stool x at 0 strong 9; bears (day=" + day + ")*5; wears 0;");
            x.evening();
            x.dented(3, 1, true);
            due("40 at a on day " + day, x.rows(0), day == 3 ? 0 : 4);
            for (int evening = 1; evening <= 3; evening++) {
                due("41 on day " + day, x.sure(evening, 0), day == 3 ? -3 : evening == day + 1 ? 0 : -2);
            }
        }
        // Many is 1.
        x = told("hearth a at 0 heavy 9 room 5; stool x at 0 strong 9; stool y at 0 strong 9; bears many*5; wears many;");
        x.send(1, 0);
        x.dented(1, 1, true);
        x.dented(1, 2, false);
        x.held(1, 8, true);
        x.held(1, 9, false);
        due("40 alone", x.rows(0), 4);
    }

    private void dentsAndStrengthsAtMost() {
        FaithfulStools x = told("hearth a at 0 heavy 99; stool x at 0 strong 99 dent 98; wears 99;");
        x.dented(1, 99, true);
        due("40 99 at most", x.rows(0), 4);
        due("41 at a", x.sure(1, 0), 0);
        x.held(1, 1, false);
        due("40 worn to nothing", x.rows(0), 4);
        x.held(2, 1, false);
        due("40 then broken", x.rows(0), 2);
        due("41 at a", x.sure(2, 0), 0);
        x.held(3, 2, true);
        due("40 then at rest", x.rows(0), 1);
        due("41 nowhere", x.sure(3, 0), -1);
        x = told("hearth a at 0 heavy 99; stool x at 0 strong 99; wears 0-5;");
        x.held(3, 99, true);
        due("40 wears 0 at least", x.rows(0), 8);
        x = told("hearth a at 0 heavy 0; stool x at 0 strong 1; wears 9;");
        x.held(1, 1, false);
        due("40 wears all he has", x.rows(0), 4);
    }

    /** Nowhere: 2 more, as strong as he was told at most. */
    private void restOfTheFirst() {
        FaithfulStools x = told("hearth a at 0 heavy 50; stool x at 0 strong 9;");
        x.held(1, 9, false);
        due("41 broken first", x.sure(1, 0), 0);
        x.held(2, 6, true);
        due("41 then at rest, 6", x.sure(2, 0), -1);
        x.held(2, 7, false);
        due("40 not 7", x.rows(0), 2);
        x.held(3, 8, true);
        due("41 at rest, 8", x.sure(3, 0), -1);
        x.held(3, 9, true);
        due("40 not 9", x.rows(0), 0);
        x = told("hearth a at 0 heavy 50; stool x at 0 strong 2;");
        x.held(1, 2, false);
        x.held(2, 2, true);
        due("40 from 1 to 2, not 3", x.rows(0), 2);
        x.held(2, 3, true);
        due("40 as told at most", x.rows(0), 0);
    }

    /** -1 nowhere; -2 not the same in all; -3 no ROWS or EVENING. */
    private void sureEdges() {
        FaithfulStools x = new FaithfulStools();
        for (int evening = 0; evening <= 4; evening++) {
            due("41 no stools", x.sure(evening, 0), -3);
        }
        x = told("stool x at 0 strong 9;");
        for (int evening = 0; evening <= 4; evening++) {
            due("41 no hearths", x.sure(evening, 0), evening >= 1 && evening <= 3 ? -1 : -3);
        }
        x = told("hearth a at 0 heavy 5; hearth b at 0 heavy 5; stool x at 0 strong 9;");
        x.dented(3, 3, true);
        due("40 two hearths alike", x.rows(0), 8);
        due("41 not the same in all", x.sure(1, 0), -2);
        x = told(PAST);
        x.held(1, 4, false);
        due("40 no rows", x.rows(0), 0);
        for (int evening = 0; evening <= 4; evening++) {
            due("41 no rows", x.sure(evening, 0), -3);
        }
        due("41 known before", x.sure(1, -1), -2);
    }

    /** The fewest at the most; of like ones the first. */
    private void askEdges() {
        FaithfulStools x = new FaithfulStools();
        for (int what = -1; what <= 2; what++) {
            due("42 no stools", x.ask(what, 0), -1);
        }
        x = told("stool x at 0 strong 9;");
        due("42 no hearths", x.ask(0, 0), 1);
        due("42 no hearths", x.ask(1, 0), 1);
        x = told(PAST);
        for (int none : new int[] {-1, 2, LOW, HIGH}) {
            due("42 another what", x.ask(none, 0), -1);
        }
        x.dented(1, 1, true);
        due("42 the second, of like ones", x.ask(0, 0), 2);
        due("42 three are left", x.ask(1, 0), 3);
        x.held(2, 9, true);
        due("42 the third", x.ask(0, 0), 3);
        due("42 one is left", x.ask(1, 0), 1);
        x.held(3, 9, true);
        due("42 all is known: the first", x.ask(0, 0), 1);
        due("42 one is left", x.ask(1, 0), 1);
        x.held(3, 9, false);
        due("42 no rows", x.ask(0, 0), -1);
        due("42 no rows", x.ask(1, 0), -1);
        // The first one: a dent of one in three evenings is of any, but nowhere is twice as likely.
        x = told("hearth a at 0 heavy 5; stool x at 0 strong 9; wears 0;");
        x.dented(3, 1, true);
        x.dented(3, 2, false);
        due("40 one of three", x.rows(0), 3);
        due("42 like ones", x.ask(0, 0), 1);
        due("42 two at the most", x.ask(1, 0), 2);
        x.dented(1, 1, false);
        due("40 not the first", x.rows(0), 2);
        due("42 the second", x.ask(0, 0), 2);
        due("42 one at the most", x.ask(1, 0), 1);
    }
}
