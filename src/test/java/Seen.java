/** All that can be seen of an object: what is so, its acts, boxes and tape too. To look at it all uses the object up. */
final class Seen {
    private final FaithfulStools x;
    private final StringBuilder seen = new StringBuilder();

    private Seen(FaithfulStools x) {
        this.x = x;
    }

    static String of(FaithfulStools x) {
        Seen s = new Seen(x);
        s.told();
        s.state();
        s.past();
        s.acts();
        s.boxes();
        s.tape();
        return s.seen.toString();
    }

    /** What an object answers to every question, sent round and behind an evening. */
    static String answers(FaithfulStools x) {
        Seen s = new Seen(x);
        s.told();
        s.questions();
        x.round(0);
        for (int stool = 0; stool < x.about(0); stool++) {
            s.note("send", x.send(stool, x.lies(stool)));
        }
        s.note("evening", x.evening());
        s.state();
        s.questions();
        return s.seen.toString();
    }

    private void questions() {
        int[] all = {x.tonight(0), x.tonight(1), x.tonight(2), x.walk(), x.service(), x.round(0), x.round(1), x.change(0), x.change(1), x.change(2),
            x.cover(0), x.cover(1), x.saved(), x.grace(), x.forlorn(), x.law(-7), x.law(5), x.schisms(), x.odds(3, 0), x.odds(3, 1),
            x.rows(0), x.sure(1, 0), x.sure(3, 0), x.ask(0, 0), x.ask(1, 0), x.guests(0, 1), x.about(12)};
        for (int i = 0; i < all.length; i++) {
            note("asked" + i, all[i]);
        }
        for (int s = 0; s < 5; s++) {
            int[] his = {x.load(s), x.lasts(s, s), x.soon(s, 0), x.pilgrim(s), x.will(s, 9), x.strength(s, 9), x.easiest(s), x.nearest(s)};
            for (int i = 0; i < his.length; i++) {
                note("his" + s + i, his[i]);
            }
            note("team" + s, x.team(s, 1));
        }
    }

    private void note(String what, long answer) {
        seen.append(what).append('=').append(answer).append(' ');
    }

    private void told() {
        note("fault", x.fault(0));
        note("place", x.fault(1));
        for (int what = 0; what <= 12; what++) {
            note("about" + what, x.about(what));
        }
        for (int h = 0; h < x.about(1); h++) {
            for (int what = 0; what < 6; what++) {
                note("hearth" + h + what, x.hearth(h, what));
            }
        }
        for (int s = 0; s < x.about(0); s++) {
            note("at" + s, x.stool(s, 0));
            note("creed" + s, x.stool(s, 2));
        }
        for (int i = 0; i < x.about(12); i++) {
            note("lies" + i, x.lies(i));
        }
    }

    private void state() {
        note("day", x.about(4));
        note("seed", x.about(5));
        for (int s = 0; s < x.about(0); s++) {
            note("strength" + s, x.stool(s, 1));
            note("dent" + s, x.stool(s, 3));
            note("evenings" + s, x.stool(s, 4));
            note("sent" + s, x.stool(s, 5));
        }
    }

    private void past() {
        for (int k = 0; k < 10; k++) {
            note("rows" + k, x.rows(k));
        }
    }

    private void acts() {
        while (x.redo()) {
            seen.append("redo ");
            state();
        }
        while (x.undo()) {
            seen.append("undo ");
            state();
        }
    }

    private void boxes() {
        for (int box = 0; box < 3; box++) {
            note("back" + box, x.back(box));
            state();
        }
    }

    private void tape() {
        note("chapel", x.chapel());
        note("fault", x.fault(0));
        note("place", x.fault(1));
        note("saves", x.about(2));
    }
}
