/** An object with something of everything in it, and all that can be seen of an object. */
final class Setting {
    static final int NOTHING_THERE = -2000000000;

    private Setting() {
    }

    /**
     * Lines 0 (2 trips, one of them late), 1 (1 trip), 2 (no trip); footpaths; an image that is not as the
     * timetable is now; list 0 with 12 places, 1 with 3, 2 with none, 3 not held; a paper; a tape not yet read.
     */
    static TripRounds fresh() {
        TripRounds x = Due.with("L0:0>1>2;L3:1>3;T0:10+10+10;F2-4=7;F0-5=9");
        x.image();
        Due.table(x, "T0:40+10+10;T1:60+10;F1-5=3;F0-5=4;D0.0@1+5;L2:6>7");
        x.list(0, 12);
        x.lay(0, 0, 0, 0, 2);
        x.list(1, 3);
        x.set(1, 2, 77);
        x.list(2, 0);
        x.spell(0, 0, 3, 2);
        Due.feed(x, "F0-3=8");
        return x;
    }

    /** All that asking tells; this asks some 250 times. */
    static String show(TripRounds x) {
        StringBuilder text = new StringBuilder(net(x));
        text.append("tape ").append(x.told(5)).append(" paper ").append(x.told(6)).append(' ').append(Due.paper(x));
        for (int list = 0; list < 4; list++) {
            text.append("\nlist ").append(list).append(" judged ").append(x.judge(list, -1, 0, 0, 0)).append(':');
            for (int i = 0; i < 20 && x.get(list, i) != NOTHING_THERE; i++) text.append(' ').append(x.get(list, i));
        }
        return text.append('\n').toString();
    }

    /** Lines, trips and footpaths. */
    static String net(TripRounds x) {
        StringBuilder text = new StringBuilder("told");
        for (int what = 0; what < 5; what++) text.append(' ').append(x.told(what));
        for (int l = 0; l < x.told(0); l++) {
            text.append("\nline ").append(l).append(" of kind ").append(x.line(l, 0)).append(':');
            for (int i = 0; i < x.line(l, 1); i++) text.append(' ').append(x.stop(l, i));
            for (int t = 0; t < x.line(l, 2); t++) {
                text.append(x.runs(l, t) == 1 ? ", runs" : ", doesn't run");
                for (int i = 0; i < x.line(l, 1); i++) text.append(' ').append(x.minute(l, t, i));
            }
        }
        text.append("\nfootpaths");
        for (int one = 0; one < 12; one++) {
            for (int other = one + 1; other < 12; other++) {
                int minutes = x.foot(one, other);
                if (minutes != -5) text.append(' ').append(one).append('-').append(other).append('=').append(minutes);
            }
        }
        return text.append('\n').toString();
    }

    /** What only reading the tape and going back to the image tells; nothing is as it was then. */
    static String reveal(TripRounds x) {
        StringBuilder text = new StringBuilder("table ").append(x.table());
        text.append(" foot ").append(x.foot(0, 3)).append(" undo ").append(x.undo());
        return text.append('\n').append(net(x)).toString();
    }
}
