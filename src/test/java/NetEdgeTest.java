/** The edges of stops, lines, trips, kinds, footpaths and delays (Terms 1; promises 1, 5 to 12, 29). */
public final class NetEdgeTest {
    private static final int NONE = -1, BAD = -2, STATE = -3, FULL = -4;
    private static final int LOW = Integer.MIN_VALUE, HIGH = Integer.MAX_VALUE;
    private static final int[] AROUND = {LOW, -2, -1, 0, 1, 2, 5, 6, 7, 8, 11, 12, 1999, 2000, HIGH};

    public static void main(String[] args) {
        newObject();
        newObjectAsksNothing();
        objectsApart();
        firstAndLastStop();
        twoToSixStops();
        unlikeStops();
        eightLines();
        eightLinesInOneText();
        numbersAsTheyCome();
        sixTrips();
        dropMakesRoom();
        minutesOfTrips();
        eachMinuteGreater();
        kindsFirstAndLast();
        runsAsItCame();
        notRidden();
        onePathOfTwo();
        pathMinutes();
        allPaths();
        delayFromAStopOn();
        delaysAddUp();
        lastMinuteOf9000();
        delayInATextOf9000();
        dropToNothing();
        fullTimetable();
        toldWhenEmptyAndFull();
        Due.end();
    }

    /** "No LINES, no FOOTPATHS"; nothing on the tape, on the paper, in the lists, no image. */
    private static void newObject() {
        TripRounds x = new TripRounds();
        int[] told = {0, 0, 0, 0, 12, 0, 0};
        for (int what = 0; what < 7; what++) Due.due("told " + what, x.told(what), told[what]);
        for (int a : AROUND) {
            for (int what = 0; what < 4; what++) Due.due("line", x.line(a, what), NONE);
            Due.due("stop", x.stop(a, 0), NONE);
            Due.due("minute", x.minute(a, 0, 0), NONE);
            Due.due("runs", x.runs(a, 0), NONE);
            Due.due("drop", x.drop(a), NONE);
            Due.due("delay", x.delay(a, 0, 0, 5), NONE);
            Due.due("meet", x.meet(a, 0), NONE);
            Due.due("paper", x.paper(a), NONE);
            Due.due("get", x.get(0, a), Setting.NOTHING_THERE);
        }
        for (int list = 0; list < 4; list++) {
            Due.due("get", x.get(list, 0), Setting.NOTHING_THERE);
            Due.due("set", x.set(list, 0, 1), -11);
            Due.due("lay", x.lay(list, 0, 0, 0, 0), -11);
            Due.due("judge", x.judge(list, 0, 0, 0, 0), -11);
        }
        for (int one = 0; one < 12; one++) {
            for (int other = 0; other < 12; other++) Due.due("foot", x.foot(one, other), one == other ? NONE : -5);
        }
        Due.due("clear", x.clear(), 0);
        Due.due("undo", x.undo(), STATE);
    }

    private static void newObjectAsksNothing() {
        TripRounds x = new TripRounds();
        for (int to = 0; to < 12; to++) {
            boolean same = to == 4;
            Due.due("earliest", x.earliest(4, 9, to, 6), same ? 9 : -5);
            Due.due("worth", x.worth(4, 9, to), same ? 1 : 0);
            Due.due("legs", x.legs(4, 9, to, 6), same ? 0 : -5);
            Due.due("leg", x.leg(4, 9, to, 6, 0, 0), NONE);
            Due.due("fare", x.fare(4, 9, to, 6), same ? 0 : -5);
            Due.due("waiting", x.waiting(4, 9, to, 6), same ? 0 : -5);
            Due.due("latest", x.latest(4, to, 1999, 6), same ? 1999 : -5);
            Due.due("profile", x.profile(4, to, 6, 0, 99, -1), same ? 100 : 0);
            Due.due("worst", x.worst(4, 9, to, 6, 0), -5);
            Due.due("cut", x.cut(4, 9, to, 6, 0), same ? NONE : -5);
            Due.due("spell", x.spell(4, 9, to, 6), same ? 0 : -5);
            Due.due("board", x.board(to, 0, 0, 0), -5);
            Due.due("missed", x.missed(to), -5);
        }
        Due.due("reached", x.reached(4, 9, 9, 6), 16);
        Due.due("reached", x.reached(4, 9, 8, 6), 0);
        Due.due("table", x.table(), -100);
    }

    /** What one object holds, a new one doesn't. */
    private static void objectsApart() {
        TripRounds x = Setting.fresh();
        TripRounds y = new TripRounds();
        String empty = Setting.show(y);
        Due.due("undo", y.undo(), STATE);
        Due.table(y, "L5:8>9;T0:1+1;F8-9=3");
        y.image();
        y.list(3, 20);
        Due.feed(y, "zz");
        Due.due("the other", Setting.show(x), Setting.show(Setting.fresh()));
        Due.due("the other", Setting.reveal(x), Setting.reveal(Setting.fresh()));
        Due.due("a third", Setting.show(new TripRounds()), empty);
    }

    /** "STOPS are 0 .. 11" */
    private static void firstAndLastStop() {
        TripRounds x = Due.with("L0:0>11;L0:11>0;T0:0+1;T1:1+1;F0-11=60");
        Due.due("stop", x.stop(0, 0), 0);
        Due.due("stop", x.stop(0, 1), 11);
        Due.due("foot", x.foot(0, 11), 60);
        Due.due("earliest", x.earliest(0, 0, 11, 1), 1);
        Due.due("earliest", x.earliest(11, 1, 0, 1), 2);
        Due.due("told", x.told(4), 10);
        Due.due("meet", x.meet(0, 1), 2049);
        for (String text : new String[] {"L0:12>0", "F12-0=5"}) {
            Due.due("table of " + text, Due.table(x, text), text.startsWith("L") ? -103 : -101);
        }
        Due.due("table", Due.table(x, "L0:0>12"), -105);
        Due.due("table", Due.table(x, "F0-12=5"), -103);
        Due.due("lines", x.told(0), 2);
        Due.due("footpaths", x.told(2), 1);
    }

    /** "a row of 2 to 6 unlike STOPS" */
    private static void twoToSixStops() {
        String row = "L0:10";
        Due.due("one stop", Due.table(new TripRounds(), row), -105);
        for (int n = 2; n <= 6; n++) {
            row += ">" + n;
            TripRounds x = new TripRounds();
            Due.due("table of " + row, Due.table(x, row), 1);
            Due.due("stops", x.line(0, 1), n);
            Due.due("stop", x.stop(0, n - 1), n);
            Due.due("stop", x.stop(0, n), NONE);
            Due.due("told", x.told(4), 12 - n);
        }
        TripRounds y = new TripRounds();
        Due.due("seven stops", Due.table(y, row + ">7"), -100 - row.length());
        Due.due("lines", y.told(0), 0);
    }

    /** "a STOP twice", wherever the two stand. */
    private static void unlikeStops() {
        for (int last = 1; last < 6; last++) {
            for (int first = 0; first < last; first++) {
                String row = "L0:4";
                for (int i = 1; i < last; i++) row += ">" + (4 + i);
                TripRounds x = new TripRounds();
                Due.due("table of " + row + " and again", Due.table(x, row + ">" + (4 + first) + ">0"), -101 - row.length());
                Due.due("table of " + row + " and again", Due.table(x, row + ">0" + (4 + first)), -101 - row.length());
                Due.due("lines", x.told(0), 0);
            }
        }
    }

    /** "LINES have numbers 0 .. as they come (8 at most)", "no room" */
    private static void eightLines() {
        TripRounds x = Due.with("L0:0>1;L1:1>2;L2:2>3;L3:3>4;L4:4>5;L5:5>6;L0:6>7");
        x.image();
        Due.due("line", x.line(6, 1), 2);
        Due.due("line", x.line(7, 1), NONE);
        Due.due("the eighth", Due.table(x, "F0-1=5;L5:8>9>10;T7:1200+5+6"), 3);
        Due.due("lines", x.told(0), 8);
        Due.due("line", x.line(7, 0), 5);
        Due.due("line", x.line(8, 0), NONE);
        String before = Setting.net(x);
        Due.due("the ninth", Due.table(x, "L0:10>11"), -100);
        Due.due("the ninth", Due.table(x, "L"), -100);
        Due.due("the ninth", Due.table(x, "Lx"), -100);
        Due.due("the ninth", Due.table(x, "F0-1=6;T7:1300+5+6;L0:10>11"), -119);
        Due.due("the ninth", Due.table(x, "D7.0@0+9;L9"), -109);
        Due.due("all behind it", Setting.net(x), before);
        Due.due("undo", x.undo(), 7);
        Due.due("the eighth again", Due.table(x, "L4:10>11"), 1);
        Due.due("line", x.line(7, 0), 4);
        Due.due("trips", x.line(7, 2), 0);
        Due.due("the ninth", Due.table(x, "L0:10>11"), -100);
    }

    private static void eightLinesInOneText() {
        String eight = "L0:0>1;L0:0>1;L0:0>1;L0:0>1;L0:0>1;L0:0>1;L0:0>1;L0:0>1";
        TripRounds x = new TripRounds();
        Due.due("nine lines", Due.table(x, eight + ";L0:0>1"), -156);
        Due.due("lines", x.told(0), 0);
        Due.due("eight lines", Due.table(x, eight), 8);
        Due.due("lines", x.told(0), 8);
    }

    private static void numbersAsTheyCome() {
        TripRounds x = Due.with("L3:7>1;L1:1>0>9;T1:20+1+1;T1:10+1+1;T0:60+9;T1:15+1+1");
        int[] begins = {20, 10, 15};
        for (int t = 0; t < 3; t++) Due.due("trip " + t, x.minute(1, t, 0), begins[t]);
        Due.due("line 0", x.line(0, 0), 3);
        Due.due("line 1", x.line(1, 0), 1);
        Due.due("trip of line 0", x.minute(0, 0, 1), 69);
    }

    /** "TRIPS of a LINE 0 .. as they come (6 at most)": each line has room of its own. */
    private static void sixTrips() {
        TripRounds x = Due.with("L0:0>1;L0:2>3;T0:1+1;T0:2+1;T0:3+1;T0:4+1;T0:5+1;T0:6+1");
        Due.due("trips", x.line(0, 2), 6);
        Due.due("runs", x.runs(0, 5), 1);
        Due.due("runs", x.runs(0, 6), NONE);
        String before = Setting.net(x);
        Due.due("the seventh", Due.table(x, "T0:7+1"), -100);
        Due.due("the seventh", Due.table(x, "T0"), -100);
        Due.due("the seventh", Due.table(x, "T0x"), -100);
        Due.due("the seventh", Due.table(x, "T1:9+1;T0:7+1"), -107);
        Due.due("the seventh", Due.table(x, "T1:1+1;T1:1+1;T1:1+1;T1:1+1;T1:1+1;T1:1+1;T1:1+1"), -142);
        Due.due("all behind it", Setting.net(x), before);
        Due.due("another line's", Due.table(x, "T1:1+1;T1:1+1;T1:1+1;T1:1+1;T1:1+1;T1:1+1"), 6);
        Due.due("trips", x.told(1), 12);
        Due.due("its seventh", Due.table(x, "T1:1+1"), -100);
    }

    private static void dropMakesRoom() {
        TripRounds x = Due.with("L0:0>1;T0:1+1;T0:2+1;T0:3+1;T0:4+1;T0:5+1;T0:6+1");
        Due.due("drop", x.drop(0), 5);
        Due.due("runs", x.runs(0, 5), NONE);
        Due.due("the sixth again", Due.table(x, "T0:9+1"), 1);
        Due.due("minute", x.minute(0, 5, 0), 9);
        Due.due("the seventh", Due.table(x, "T0:9+1"), -100);
    }

    /** "for each of its STOPS a MINUTE (0 .. 1999)" */
    private static void minutesOfTrips() {
        TripRounds x = Due.with("L0:0>1;L0:0>1>2>3>4>5");
        Due.due("from 0", Due.table(x, "T0:0+1"), 1);
        Due.due("to 1999", Due.table(x, "T0:1998+1"), 1);
        Due.due("to 1999", Due.table(x, "T0:1000+999"), 1);
        Due.due("from 1999", Due.table(x, "T0:1999+1"), -108);
        Due.due("from 2000", Due.table(x, "T0:2000+1"), -103);
        Due.due("from 9999", Due.table(x, "T0:9999"), -103);
        Due.due("to 2000", Due.table(x, "T0:1001+999"), -108);
        Due.due("to 2000", Due.table(x, "T0:1998+2"), -108);
        Due.due("to 1999", Due.table(x, "T1:1+999+996+1+1+1"), 1);
        Due.due("to 2000", Due.table(x, "T1:1+999+996+1+1+2"), -117);
        Due.due("to 2000 ahead of the last", Due.table(x, "T1:1+999+999+1+1+1"), -113);
        Due.due("to 1999 too early", Due.table(x, "T1:1+999+999"), -112);
        Due.due("minute", x.minute(0, 0, 0), 0);
        Due.due("minute", x.minute(0, 1, 1), 1999);
        Due.due("minute", x.minute(1, 0, 5), 1999);
        Due.due("trips", x.told(1), 4);
    }

    /** "each greater than that ahead" */
    private static void eachMinuteGreater() {
        TripRounds x = Due.with("L0:0>1>2;T0:7+1+1");
        for (int i = 0; i < 3; i++) Due.due("minute", x.minute(0, 0, i), 7 + i);
        Due.due("not greater", Due.table(x, "T0:7+0+1"), -105);
        Due.due("not greater", Due.table(x, "T0:7+1+0"), -107);
        Due.due("not greater", Due.table(x, "T0:7+1+00"), -107);
        Due.due("not greater", Due.table(x, "T0:7+1+000"), -107);
        Due.due("greater by one", Due.table(x, "T0:7+1+001"), 1);
        Due.due("trips", x.told(1), 2);
    }

    private static void kindsFirstAndLast() {
        for (int kind = 0; kind < 6; kind++) {
            TripRounds x = Due.with("L" + kind + ":0>1");
            Due.due("kind", x.line(0, 0), kind);
        }
        for (int kind = 6; kind < 10; kind++) {
            TripRounds x = new TripRounds();
            Due.due("kind " + kind, Due.table(x, "L" + kind + ":0>1"), -101);
            Due.due("lines", x.told(0), 0);
        }
    }

    private static void ranOn(int kind, int begins, int late, int due) {
        TripRounds x = Due.with("L" + kind + ":0>1;T0:" + begins + "+1");
        for (int k = 0; k < late / 99; k++) x.delay(0, 0, 0, 99);
        if (late % 99 > 0) x.delay(0, 0, 0, late % 99);
        String call = "kind " + kind + " of " + begins + " late by " + late;
        Due.due(call, x.minute(0, 0, 0), begins + late);
        Due.due(call, x.runs(0, 0), due);
        Due.due(call, x.line(0, 3), due);
        Due.due(call, x.told(3), due);
        Due.due(call, x.board(0, 0, 0, 1), due == 1 ? 0 : -5);
        x.image();
        x.drop(0);
        x.undo();
        Due.due(call + ", back", x.runs(0, 0), due);
    }

    /** "by the MINUTE at its first STOP, as it came": a delay makes none run, and none not. */
    private static void runsAsItCame() {
        ranOn(1, 1299, 1, 1);
        ranOn(1, 1299, 700, 1);
        ranOn(2, 299, 1, 1);
        ranOn(2, 300, 900, 0);
        ranOn(2, 1199, 1, 0);
        ranOn(3, 360, 1, 1);
        ranOn(3, 359, 1, 0);
        ranOn(3, 1199, 1, 0);
        ranOn(3, 301, 59, 0);
        ranOn(4, 399, 1, 0);
        ranOn(4, 1299, 1, 1);
        ranOn(5, 1199, 1, 0);
        ranOn(5, 361, 59, 0);
        ranOn(5, 420, 1, 1);
    }

    /** "What doesn't RUN, isn't ridden." */
    private static void notRidden() {
        TripRounds x = Due.with("L2:0>1>2;T0:300+5+5;L0:3>1>4;T1:306+5+5");
        Due.due("earliest", x.earliest(0, 0, 2, 6), -5);
        Due.due("board", x.board(0, 0, 0, 0), -5);
        Due.due("board", x.board(1, 0, 0, 0), 1);
        Due.due("missed", x.missed(1), -5);
        Due.due("latest", x.latest(0, 2, 1999, 6), -5);
        Due.due("reached", x.reached(0, 0, 1999, 6), 1);
        Due.due("another that runs", Due.table(x, "T0:299+5+5"), 1);
        Due.due("earliest", x.earliest(0, 0, 2, 6), 309);
        Due.due("trip", x.leg(0, 0, 2, 6, 0, 1), 1);
        Due.due("missed", x.missed(1), 7);
    }

    /** "of two unlike STOPS at most one", "both ways" */
    private static void onePathOfTwo() {
        TripRounds x = Due.with("F3-8=5;F8-3=6");
        Due.due("footpaths", x.told(2), 1);
        Due.due("foot", x.foot(3, 8), 6);
        Due.due("foot", x.foot(8, 3), 6);
        Due.due("walk", x.walk(3, 8, 7), 6);
        Due.due("footpaths", x.told(2), 1);
        Due.due("earliest", x.earliest(3, 1, 8, 0), 8);
        Due.due("earliest", x.earliest(8, 1, 3, 0), 8);
        Due.due("walk", x.walk(8, 3, 0), 7);
        Due.due("footpaths", x.told(2), 0);
        Due.due("foot", x.foot(3, 8), -5);
        Due.due("foot", x.foot(8, 3), -5);
        Due.due("earliest", x.earliest(3, 1, 8, 0), -5);
        Due.due("one stop", Due.table(x, "F3-3=5"), -103);
    }

    /** "of 1 .. 60 minutes" */
    private static void pathMinutes() {
        TripRounds x = new TripRounds();
        Due.due("walk", x.walk(0, 1, 60), -5);
        for (int minutes : new int[] {LOW, -60, -1, 61, 100, HIGH}) {
            Due.due("walk", x.walk(0, 1, minutes), BAD);
            Due.due("foot", x.foot(0, 1), 60);
        }
        Due.due("walk", x.walk(0, 1, 1), 60);
        Due.due("walk", x.walk(0, 1, 0), 1);
        Due.due("walk", x.walk(0, 1, 0), -5);
        Due.due("table", Due.table(x, "F0-1=1"), 1);
        Due.due("foot", x.foot(0, 1), 1);
        Due.due("table", Due.table(x, "F0-1=60"), 1);
        for (String minutes : new String[] {"0", "00", "61", "99"}) {
            Due.due("table of " + minutes, Due.table(x, "F0-1=" + minutes), -105);
            Due.due("foot", x.foot(0, 1), 60);
        }
        Due.due("table", Due.table(x, "F1-0=05"), 1);
        Due.due("foot", x.foot(0, 1), 5);
    }

    private static void allPaths() {
        TripRounds x = new TripRounds();
        int paths = 0;
        for (int one = 0; one < 12; one++) {
            for (int other = one + 1; other < 12; other++) {
                Due.due("walk", x.walk(one, other, 1 + paths % 60), -5);
                paths++;
                Due.due("footpaths", x.told(2), paths);
            }
        }
        Due.due("all", paths, 66);
        for (int other = 1; other < 12; other++) Due.due("foot", x.foot(other, 0), other);
        Due.due("reached", x.reached(0, 1, 12, 0), 4095);
        Due.due("reached", x.reached(0, 1, 11, 0), 2047);
    }

    /** "all its MINUTES from there are d more" */
    private static void delayFromAStopOn() {
        for (int place = 0; place < 6; place++) {
            for (int more : new int[] {1, 99}) {
                TripRounds x = Due.with("L0:0>1>2>3>4>5;T0:9+9+9+9+9+9;T0:9+9+9+9+9+9;T0:9+9+9+9+9+9");
                Due.due("delay", x.delay(0, 1, place, more), 9 + 9 * place + more);
                for (int i = 0; i < 6; i++) {
                    Due.due("minute", x.minute(0, 1, i), 9 + 9 * i + (i < place ? 0 : more));
                    Due.due("the trip ahead", x.minute(0, 0, i), 9 + 9 * i);
                    Due.due("the trip behind", x.minute(0, 2, i), 9 + 9 * i);
                }
            }
        }
    }

    /** "they are added up", those of a text and those of calls. */
    private static void delaysAddUp() {
        TripRounds x = Due.with("L0:0>1>2;T0:5+5+5;D0.0@0+1;D0.0@1+99;D0.0@1+1;D0.0@2+10");
        int[] due = {6, 111, 126};
        for (int i = 0; i < 3; i++) Due.due("minute", x.minute(0, 0, i), due[i]);
        Due.due("delay", x.delay(0, 0, 1, 9), 120);
        Due.due("delay", x.delay(0, 0, 0, 1), 7);
        Due.due("minute", x.minute(0, 0, 1), 121);
        Due.due("minute", x.minute(0, 0, 2), 136);
    }

    /** "above 1999, too, but its last one never above 9000" */
    private static void lastMinuteOf9000() {
        TripRounds x = Due.with("L0:0>1;T0:1998+1");
        Due.due("delay", x.delay(0, 0, 1, 1), 2000);
        Due.due("delay", x.delay(0, 0, 0, 2), 2000);
        for (int k = 1; k <= 70; k++) Due.due("delay", x.delay(0, 0, 0, 99), 2000 + 99 * k);
        Due.due("minute", x.minute(0, 0, 1), 8932);
        Due.due("delay", x.delay(0, 0, 0, 69), FULL);
        Due.due("delay", x.delay(0, 0, 1, 69), FULL);
        Due.due("minute", x.minute(0, 0, 0), 8930);
        Due.due("minute", x.minute(0, 0, 1), 8932);
        Due.due("delay", x.delay(0, 0, 0, 68), 8998);
        Due.due("minute", x.minute(0, 0, 1), 9000);
        Due.due("delay", x.delay(0, 0, 0, 1), FULL);
        Due.due("delay", x.delay(0, 0, 1, 1), FULL);
        Due.due("earliest", x.earliest(0, 1999, 1, 1), 9000);
        Due.due("walk", x.walk(1, 2, 60), -5);
        Due.due("earliest", x.earliest(0, 1999, 2, 1), 9060);
        Due.due("worst", x.worst(0, 1999, 2, 1, 1), 940);
        Due.due("board", x.board(0, 1999, 0, 2), 8998);
        Due.due("runs", x.runs(0, 0), 1);
    }

    /** "a DELAY that can't be", "where the PART begins" */
    private static void delayInATextOf9000() {
        TripRounds x = Due.with("L0:0>1;T0:1900+1;T0:5+5");
        for (int k = 0; k < 71; k++) x.delay(0, 0, 1, 99);
        Due.due("minute", x.minute(0, 0, 1), 8930);
        Due.due("by 71", Due.table(x, "D0.0@0+71"), -100);
        Due.due("by 71 behind others", Due.table(x, "D0.1@0+9;F0-1=5;D0.0@1+71;F2-3=5"), -116);
        Due.due("by 70 and by 1", Due.table(x, "D0.0@1+70;D0.0@1+1"), -110);
        Due.due("minute", x.minute(0, 0, 0), 1900);
        Due.due("minute", x.minute(0, 0, 1), 8930);
        Due.due("the other trip", x.minute(0, 1, 0), 5);
        Due.due("footpaths", x.told(2), 0);
        Due.due("by 70", Due.table(x, "D0.0@1+70"), 1);
        Due.due("minute", x.minute(0, 0, 1), 9000);
        Due.due("by 1", Due.table(x, "D0.0@1+1"), -100);
        Due.due("the other trip by 99", Due.table(x, "D0.1@1+99"), 1);
    }

    /** "STATE: it has none." */
    private static void dropToNothing() {
        TripRounds x = Due.with("L0:0>1;L0:2>3;T0:1+1;T0:2+1;T0:3+1;T0:4+1;T0:5+1;T0:6+1;T1:7+1");
        for (int left = 5; left >= 0; left--) {
            Due.due("drop", x.drop(0), left);
            Due.due("trips", x.line(0, 2), left);
            Due.due("trips of all", x.told(1), left + 1);
            Due.due("the last one", x.runs(0, left), NONE);
            if (left > 0) Due.due("that ahead", x.minute(0, left - 1, 0), left);
        }
        Due.due("drop", x.drop(0), STATE);
        Due.due("drop", x.drop(0), STATE);
        Due.due("line", x.line(0, 1), 2);
        Due.due("trips of all", x.told(1), 1);
        Due.due("drop", x.drop(1), 0);
        Due.due("drop", x.drop(1), STATE);
        Due.due("trips of all", x.told(1), 0);
    }

    private static TripRounds full() {
        TripRounds x = new TripRounds();
        for (int l = 0; l < 8; l++) {
            Due.table(x, "L2:0>" + (l + 1));
            String text = "T" + l + ":" + l + "+1";
            for (int t = 1; t < 6; t++) text += ";T" + l + ":" + (l + t) + "+1";
            Due.due("table of " + text, Due.table(x, text), 6);
        }
        return x;
    }

    /** All lines with all trips, and back to that from the image. */
    private static void fullTimetable() {
        TripRounds x = full();
        Due.due("trips", x.told(1), 48);
        Due.due("image", x.image(), 8);
        for (int l = 7; l > 4; l--) {
            x.delay(l, 0, 0, 50);
            x.drop(l);
            x.drop(l);
            Due.table(x, "T" + l + ":500+9");
        }
        Due.due("trips", x.told(1), 45);
        Due.due("trips that run", x.told(3), 42);
        Due.due("undo", x.undo(), 8);
        Due.due("trips", x.told(1), 48);
        Due.due("trips that run", x.told(3), 48);
        for (int l = 7; l > 4; l--) {
            Due.due("minute", x.minute(l, 0, 0), l);
            Due.due("minute", x.minute(l, 4, 1), l + 5);
            Due.due("minute", x.minute(l, 5, 1), l + 6);
            Due.due("runs", x.runs(l, 4), 1);
        }
        Due.due("no line", x.minute(8, 5, 1), NONE);
        Due.due("no trip", x.minute(7, 6, 1), NONE);
        Due.due("no stop", x.minute(7, 5, 2), NONE);
        Due.due("no room", Due.table(x, "T7:1+1"), -100);
    }

    /** "STOPS that no LINE has": a trip or a footpath is not asked for. */
    private static void toldWhenEmptyAndFull() {
        TripRounds x = Due.with("F0-1=5;F10-11=5", "L0:0>1>2>3>4>5");
        Due.due("stops left", x.told(4), 6);
        Due.table(x, "L2:5>4>3>2>1>0;L2:6>7>8>9>10");
        Due.due("stops left", x.told(4), 1);
        Due.table(x, "L0:11>0");
        Due.due("stops left", x.told(4), 0);
        Due.due("trips that run", x.told(3), 0);
        Due.table(x, "T3:5+5;T3:1999+1");
        Due.due("trips that run", x.told(3), 0);
        Due.table(x, "T3:5+5;T1:500+1+1+1+1+1");
        Due.due("trips", x.told(1), 2);
        Due.due("trips that run", x.told(3), 1);
        x.drop(3);
        Due.due("trips that run", x.told(3), 0);
    }
}
