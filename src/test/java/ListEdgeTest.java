/** The edges of LISTS, LAID, JUDGED and THE IMAGE (Terms 4; promises 30 to 36). */
public final class ListEdgeTest {
    private static final int NONE = -1, STATE = -3, NOTHING = -11, BEYOND = -13;
    private static final int LOW = Integer.MIN_VALUE, HIGH = Integer.MAX_VALUE;
    private static final int NO_PLACE = Setting.NOTHING_THERE;

    /** EARLIEST of stops 0 to 11 from stop 0 at minute 7 by one ride, in the timetable of net(). */
    private static final int[] ALL = {7, 15, -1, 20, -1, -1, -1, -1, -1, -1, -1, 29};

    public static void main(String[] args) {
        nothingAtFirst();
        eachSize();
        listAnew();
        listsApart();
        anyInt();
        laidAtEachPlace();
        laidIntoEachSize();
        laidByRides();
        laidBehind1999();
        judgedEachStop();
        judgedFirstOfSeveral();
        judgedAtEachPlace();
        judgedNever();
        judgedBeyond();
        noImage();
        imageOfNothing();
        imageOfLines();
        imageOfTripsWithDelays();
        imageOfRunning();
        imageOfPaths();
        undoLeavesTheRest();
        undoAgain();
        latestImage();
        imageIsNoPartOfIt();
        imageBesideFaults();
        Due.end();
    }

    private static TripRounds net() {
        return Due.with("L0:0>1>3;T0:10+5+5;F3-11=9");
    }

    // ---- lists

    /** "hold nothing (at first)": NOTHING, whatever the place; a place not there is BEYOND only then. */
    private static void nothingAtFirst() {
        TripRounds x = net();
        for (int list = 0; list < 4; list++) {
            for (int i : new int[] {LOW, -1, 0, 19, 20, HIGH}) {
                Due.due("set", x.set(list, i, 5), NOTHING);
                Due.due("get", x.get(list, i), NO_PLACE);
                Due.due("lay", x.lay(list, i, 0, 7, 1), NOTHING);
                Due.due("judge", x.judge(list, i, 0, 7, 1), NOTHING);
            }
        }
        Due.due("list of none", x.list(0, 0), 1);
        Due.due("set", x.set(0, 0, 5), BEYOND);
        Due.due("lay", x.lay(0, 0, 0, 7, 1), BEYOND);
        Due.due("judge", x.judge(0, 0, 0, 7, 1), 100);
        Due.due("set of another", x.set(1, 0, 5), NOTHING);
    }

    /** "a row of 0 .. 20 ints" */
    private static void eachSize() {
        for (int n = 0; n <= 20; n++) {
            TripRounds x = new TripRounds();
            Due.due("list", x.list(3, n), 1);
            for (int i = 0; i < n; i++) {
                Due.due("get", x.get(3, i), 0);
                Due.due("set", x.set(3, i, i - 9), 1);
                Due.due("get", x.get(3, i), i - 9);
            }
            for (int i : new int[] {LOW, -1, n, n + 1, 20, 21, HIGH}) {
                Due.due("get", x.get(3, i), NO_PLACE);
                Due.due("set", x.set(3, i, 5), BEYOND);
            }
        }
    }

    /** "becomes a row of n ints, all 0", longer or shorter than it was. */
    private static void listAnew() {
        TripRounds x = new TripRounds();
        for (int n : new int[] {20, 1, 20, 0, 20, 20}) {
            Due.due("list", x.list(0, n), 1);
            for (int i = 0; i < n; i++) {
                Due.due("get", x.get(0, i), 0);
                x.set(0, i, 7);
            }
            Due.due("get", x.get(0, n), NO_PLACE);
        }
    }

    private static void listsApart() {
        TripRounds x = net();
        for (int list = 0; list < 4; list++) x.list(list, 12 + list);
        for (int list = 0; list < 4; list++) x.set(list, 0, 50 + list);
        Due.due("lay", x.lay(2, 0, 0, 7, 1), 12);
        int[] first = {50, 51, 7, 53};
        for (int list = 0; list < 4; list++) {
            Due.due("first", x.get(list, 0), first[list]);
            Due.due("second", x.get(list, 1), list == 2 ? 15 : 0);
            Due.due("last", x.get(list, 11 + list), 0);
            Due.due("behind it", x.get(list, 12 + list), NO_PLACE);
        }
        x.list(1, 3);
        Due.due("another's size", x.get(0, 11), 0);
        Due.due("another's size", x.get(2, 13), 0);
    }

    /** What a place holds may be any int, what no place answers, too. */
    private static void anyInt() {
        TripRounds x = new TripRounds();
        x.list(0, 2);
        for (int v : new int[] {LOW, LOW + 1, NO_PLACE, -14, -1, 0, 1, HIGH - 1, HIGH}) {
            Due.due("set", x.set(0, 1, v), 1);
            Due.due("get", x.get(0, 1), v);
            Due.due("get", x.get(0, 0), 0);
        }
    }

    // ---- laid and judged

    /** "until a place isn't there": those that had one are there all the same. */
    private static void laidAtEachPlace() {
        for (int i = -2; i <= 21; i++) {
            TripRounds x = net();
            x.list(0, 20);
            for (int k = 0; k < 20; k++) x.set(0, k, 500 + k);
            Due.due("lay at " + i, x.lay(0, i, 0, 7, 1), i >= 0 && i <= 8 ? 12 : BEYOND);
            for (int k = 0; k < 20; k++) {
                boolean laid = i >= 0 && k >= i && k < i + 12;
                Due.due("place " + k + " of lay at " + i, x.get(0, k), laid ? ALL[k - i] : 500 + k);
            }
        }
        TripRounds y = net();
        y.list(0, 20);
        for (int i : new int[] {LOW, LOW + 12, -12, -11, HIGH - 11, HIGH}) {
            Due.due("lay at " + i, y.lay(0, i, 0, 7, 1), BEYOND);
            for (int k = 0; k < 20; k++) Due.due("place", y.get(0, k), 0);
        }
    }

    private static void laidIntoEachSize() {
        for (int n = 0; n <= 20; n++) {
            TripRounds x = net();
            x.list(1, n);
            Due.due("lay into " + n, x.lay(1, 0, 0, 7, 1), n < 12 ? BEYOND : 12);
            for (int k = 0; k < n; k++) Due.due("place " + k, x.get(1, k), k < 12 ? ALL[k] : 0);
            Due.due("judge " + n, x.judge(1, 0, 0, 7, 1), n < 12 ? 100 + n : -5);
        }
    }

    private static void laidByRides() {
        TripRounds x = net();
        x.list(0, 12);
        Due.due("by none", x.lay(0, 0, 3, 0, 0), 12);
        Due.due("itself", x.get(0, 3), 0);
        Due.due("walk", x.get(0, 11), 9);
        Due.due("never", x.get(0, 0), -1);
        Due.due("judged by six", x.judge(0, 0, 3, 0, 6), -5);
        Due.due("by six", x.lay(0, 0, 11, 1999, 6), 12);
        Due.due("walk", x.get(0, 3), 2008);
        Due.due("itself", x.get(0, 11), 1999);
    }

    private static void laidBehind1999() {
        TripRounds x = net();
        for (int k = 0; k < 90; k++) x.delay(0, 0, 2, 99);
        x.delay(0, 0, 2, 70);
        x.list(0, 12);
        Due.due("lay", x.lay(0, 0, 0, 0, 1), 12);
        Due.due("ride", x.get(0, 3), 9000);
        Due.due("walk", x.get(0, 11), 9009);
        Due.due("judge", x.judge(0, 0, 0, 0, 1), -5);
    }

    /** "the first STOP whose EARLIEST is not what the LIST has there" */
    private static void judgedEachStop() {
        for (int s = 0; s < 12; s++) {
            for (int by : new int[] {-1, 1}) {
                TripRounds x = net();
                x.list(0, 20);
                x.lay(0, 8, 0, 7, 1);
                Due.due("all right", x.judge(0, 8, 0, 7, 1), -5);
                x.set(0, 8 + s, ALL[s] + by);
                Due.due("judge", x.judge(0, 8, 0, 7, 1), s);
                x.set(0, 8 + s, ALL[s]);
                Due.due("all right again", x.judge(0, 8, 0, 7, 1), -5);
            }
        }
    }

    private static void judgedFirstOfSeveral() {
        TripRounds x = net();
        x.list(0, 12);
        x.lay(0, 0, 0, 7, 1);
        for (int s = 11; s >= 0; s--) {
            x.set(0, s, 4000);
            Due.due("judge", x.judge(0, 0, 0, 7, 1), s);
        }
        Due.due("judge changes nothing", x.get(0, 3), 4000);
        x.lay(0, 0, 0, 7, 1);
        x.delay(0, 0, 1, 1);
        Due.due("the timetable is another", x.judge(0, 0, 0, 7, 1), 1);
        x.walk(0, 1, 8);
        x.delay(0, 0, 2, 99);
        Due.due("the timetable is another", x.judge(0, 0, 0, 7, 1), 3);
    }

    /** "100 and how many were looked at, if the LIST ends ahead of that" */
    private static void judgedAtEachPlace() {
        TripRounds x = net();
        x.list(0, 20);
        for (int i = 0; i <= 21; i++) {
            x.list(0, 20);
            x.lay(0, i, 0, 7, 1);
            int places = Math.max(0, 20 - i);
            Due.due("judge at " + i, x.judge(0, i, 0, 7, 1), places >= 12 ? -5 : 100 + places);
            if (i > 19) continue;
            x.set(0, 19, 4000);
            Due.due("wrong at the end, at " + i, x.judge(0, i, 0, 7, 1), places > 12 ? -5 : places - 1);
        }
    }

    /** Never is -1 in a list, not -5 and not 10000. */
    private static void judgedNever() {
        TripRounds x = net();
        x.list(0, 12);
        x.lay(0, 0, 0, 7, 1);
        for (int v : new int[] {-5, 10000, 0, LOW, HIGH}) {
            x.set(0, 2, v);
            Due.due("never as " + v, x.judge(0, 0, 0, 7, 1), 2);
        }
        x.set(0, 2, -1);
        Due.due("never as -1", x.judge(0, 0, 0, 7, 1), -5);
    }

    /** "(or the place is below 0)" */
    private static void judgedBeyond() {
        TripRounds x = net();
        x.list(0, 20);
        x.lay(0, 0, 0, 7, 1);
        for (int i : new int[] {LOW, -20, -12, -1, 20, 21, HIGH - 12, HIGH}) {
            Due.due("judge at " + i, x.judge(0, i, 0, 7, 1), 100);
        }
        x.list(1, 1);
        Due.due("wrong ahead of the end", x.judge(1, 0, 0, 7, 1), 0);
        x.set(1, 0, 7);
        Due.due("the end", x.judge(1, 0, 0, 7, 1), 101);
    }

    // ---- the image

    private static void noImage() {
        TripRounds x = net();
        String before = Setting.show(x);
        Due.due("undo", x.undo(), STATE);
        Due.due("all behind it", Setting.show(x), before);
        Due.due("image", x.image(), 1);
        Due.due("undo", x.undo(), 1);
        Due.due("all behind it", Setting.show(x), before);
    }

    private static void imageOfNothing() {
        TripRounds x = new TripRounds();
        String before = Setting.show(x);
        Due.due("image", x.image(), 0);
        Due.table(x, "L1:0>1>3;T0:10+5+5;F3-11=9");
        Due.due("undo", x.undo(), 0);
        Due.due("all behind it", Setting.show(x), before);
        Due.due("earliest", x.earliest(0, 0, 1, 6), -5);
        Due.due("a line of other stops", Due.table(x, "L4:7>8;T0:500+9"), 2);
        Due.due("kind", x.line(0, 0), 4);
        Due.due("stops", x.line(0, 1), 2);
        Due.due("trips", x.line(0, 2), 1);
        Due.due("runs", x.runs(0, 0), 1);
        Due.due("minute", x.minute(0, 0, 1), 509);
        Due.due("earliest", x.earliest(7, 0, 8, 1), 509);
        Due.due("undo", x.undo(), 0);
        Due.due("all behind it", Setting.show(x), before);
    }

    /** Lines that came behind it are gone, with their trips; others come in their place. */
    private static void imageOfLines() {
        TripRounds x = Due.with("L0:0>1;T0:1+1");
        Due.due("image", x.image(), 1);
        Due.table(x, "L2:2>3>4;T1:5+5+5;T1:6+6+6");
        Due.due("undo", x.undo(), 1);
        Due.due("line", x.line(1, 0), NONE);
        Due.due("runs", x.runs(1, 0), NONE);
        Due.due("told", x.told(4), 10);
        Due.due("table", Due.table(x, "L5:6>7"), 1);
        Due.due("trips", x.line(1, 2), 0);
        Due.due("stops", x.line(1, 1), 2);
        Due.due("kind", x.line(1, 0), 5);
        Due.due("image", x.image(), 2);
        Due.due("undo", x.undo(), 2);
    }

    /** "TRIPS (with DELAYS)": those dropped, those delayed, those that came. */
    private static void imageOfTripsWithDelays() {
        TripRounds x = Due.with("L0:0>1>2;T0:1+1+1;T0:5+5+5;D0.1@1+9");
        String before = Setting.net(x);
        x.image();
        x.delay(0, 0, 0, 99);
        x.delay(0, 1, 2, 1);
        Due.due("undo", x.undo(), 1);
        Due.due("delays", Setting.net(x), before);
        x.drop(0);
        x.drop(0);
        Due.due("undo", x.undo(), 1);
        Due.due("drops", Setting.net(x), before);
        x.drop(0);
        Due.table(x, "T0:100+50+50;T0:101+50+50");
        Due.due("undo", x.undo(), 1);
        Due.due("other trips", Setting.net(x), before);
    }

    private static void imageOfRunning() {
        TripRounds x = Due.with("L2:0>1;L0:0>1;T0:299+9;T0:300+9");
        x.image();
        x.drop(0);
        x.drop(0);
        Due.table(x, "T0:300+9;T0:299+9");
        Due.due("runs", x.runs(0, 0), 0);
        Due.due("undo", x.undo(), 2);
        Due.due("runs", x.runs(0, 0), 1);
        Due.due("runs", x.runs(0, 1), 0);
        Due.due("told", x.told(3), 1);
    }

    private static void imageOfPaths() {
        TripRounds x = Due.with("F0-1=5;F10-11=60");
        x.image();
        x.walk(0, 1, 0);
        x.walk(11, 10, 59);
        x.walk(0, 11, 1);
        Due.due("undo", x.undo(), 0);
        Due.due("gone", x.foot(1, 0), 5);
        Due.due("another", x.foot(10, 11), 60);
        Due.due("another", x.foot(11, 10), 60);
        Due.due("came", x.foot(11, 0), -5);
        Due.due("told", x.told(2), 2);
    }

    /** "(THE TAPE, THE PAPER, LISTS stay by undo())" */
    private static void undoLeavesTheRest() {
        TripRounds x = net();
        x.image();
        x.delay(0, 0, 0, 9);
        x.list(0, 12);
        x.lay(0, 0, 0, 7, 1);
        x.list(3, 0);
        x.spell(0, 0, 11, 1);
        Due.feed(x, "F0-1=8");
        Due.due("undo", x.undo(), 1);
        Due.due("minute", x.minute(0, 0, 0), 10);
        Due.due("paper", Due.paper(x), "L0.0:0>3 W:3>11");
        Due.due("list", x.get(0, 1), 24);
        Due.due("list of none", x.set(3, 0, 1), BEYOND);
        Due.due("no list", x.set(2, 0, 1), NOTHING);
        Due.due("tape", x.told(5), 6);
        Due.due("table", x.table(), 1);
        Due.due("foot", x.foot(0, 1), 8);
    }

    private static void undoAgain() {
        TripRounds x = net();
        x.image();
        String before = Setting.net(x);
        for (int again = 0; again < 2; again++) {
            x.delay(0, 0, 1, 30 + again);
            x.walk(again, 9, 7);
            Due.table(x, "L0:5>6;T1:9+9");
            Due.due("undo", x.undo(), 1);
            Due.due("undo at once", x.undo(), 1);
            Due.due("all behind it", Setting.net(x), before);
        }
    }

    private static void latestImage() {
        TripRounds x = net();
        Due.due("image", x.image(), 1);
        Due.table(x, "L0:5>6;T1:9+9");
        Due.due("image", x.image(), 2);
        Due.table(x, "L0:5>6;T2:9+9");
        Due.due("undo", x.undo(), 2);
        Due.due("trips", x.told(1), 2);
        Due.due("undo", x.undo(), 2);
    }

    /** What is changed behind it doesn't change it; to take it changes nothing. */
    private static void imageIsNoPartOfIt() {
        TripRounds x = Setting.fresh();
        String before = Setting.show(x);
        TripRounds y = Setting.fresh();
        Due.due("image", y.image(), 3);
        Due.due("all behind it", Setting.show(y), before);
        y.delay(1, 0, 0, 9);
        y.undo();
        y.delay(0, 0, 1, 9);
        y.walk(2, 4, 0);
        Due.due("undo", y.undo(), 3);
        Due.due("minute", y.minute(0, 0, 1), 25);
        Due.due("minute", y.minute(1, 0, 0), 60);
        Due.due("foot", y.foot(2, 4), 7);
    }

    /** A text with a fault is no change, to the image neither. */
    private static void imageBesideFaults() {
        TripRounds x = net();
        x.image();
        Due.table(x, "F0-1=8;T0:20+5+5");
        String now = Setting.net(x);
        Due.due("fault", Due.table(x, "F0-1=9;L0:5>6;T1:9+9;T0:1+1+1;x"), -130);
        Due.due("all behind it", Setting.net(x), now);
        Due.due("undo", x.undo(), 1);
        Due.due("foot", x.foot(0, 1), -5);
        Due.due("trips", x.told(1), 1);
        Due.due("fault", Due.table(x, "D0.0@0+9;x"), -109);
        Due.due("minute", x.minute(0, 0, 0), 10);
    }
}
