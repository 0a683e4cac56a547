/** The edges of BOARD and MISSED, and of where lines meet (Terms 2; promises 24 to 26). */
public final class BoardEdgeTest {
    private static final int NONE = -1;
    private static final int HIGH = Integer.MAX_VALUE;

    public static void main(String[] args) {
        boardOfNothing();
        thatMinuteOrLater();
        goesOn();
        byMinutes();
        thenByLines();
        thenByTrips();
        boardOfWhatRuns();
        boardBehind1999();
        boardOfAll();
        missedByOne();
        missedNotAtTheSameMinute();
        missedOfUnlikeLines();
        missedComesAndGoes();
        missedAtEachPlace();
        missedOfWhatRuns();
        missedLeast();
        missedMost();
        meetFirstAndLast();
        Due.end();
    }

    private static void boardIs(TripRounds x, int stop, int from, int[]... due) {
        String call = "board of " + stop + " from " + from + " row ";
        for (int i = 0; i < due.length; i++) {
            for (int what = 0; what < 3; what++) Due.due(call + i, x.board(stop, from, i, what), due[i][what]);
        }
        for (int what = 0; what < 3; what++) {
            Due.due(call + "behind the last", x.board(stop, from, due.length, what), -5);
            Due.due(call + "far behind", x.board(stop, from, HIGH, what), -5);
        }
        Due.due(call + "ahead of the first", x.board(stop, from, -1, 0), NONE);
    }

    private static void boardOfNothing() {
        TripRounds x = Due.with("L0:0>1;F0-1=5");
        for (int stop = 0; stop < 12; stop++) boardIs(x, stop, 0);
    }

    /** "at that MINUTE or later" */
    private static void thatMinuteOrLater() {
        TripRounds x = Due.with("L0:0>1>2;T0:0+5+5;T0:1994+4+1");
        boardIs(x, 0, 0, new int[] {0, 0, 0}, new int[] {0, 1, 1994});
        boardIs(x, 0, 1, new int[] {0, 1, 1994});
        boardIs(x, 0, 1994, new int[] {0, 1, 1994});
        boardIs(x, 0, 1995);
        boardIs(x, 1, 5, new int[] {0, 0, 5}, new int[] {0, 1, 1998});
        boardIs(x, 1, 6, new int[] {0, 1, 1998});
        boardIs(x, 1, 1998, new int[] {0, 1, 1998});
        boardIs(x, 1, 1999);
    }

    /** "go on from it": from the first of its stops, not from the last. */
    private static void goesOn() {
        TripRounds x = Due.with("L0:0>1>2>3>4>5;T0:0+1+1+1+1+1;L0:5>0;T1:9+1");
        for (int stop = 0; stop < 5; stop++) boardIs(x, stop, 0, new int[] {0, 0, stop});
        boardIs(x, 5, 0, new int[] {1, 0, 9});
        boardIs(x, 6, 0);
    }

    private static void byMinutes() {
        TripRounds x = Due.with("L0:0>1;L0:0>1;T0:300+5;T0:20+5;T1:100+5;T1:3+5;T0:21+5");
        boardIs(x, 0, 0, new int[] {1, 1, 3}, new int[] {0, 1, 20}, new int[] {0, 2, 21}, new int[] {1, 0, 100}, new int[] {0, 0, 300});
        boardIs(x, 0, 21, new int[] {0, 2, 21}, new int[] {1, 0, 100}, new int[] {0, 0, 300});
        x.delay(1, 1, 0, 99);
        boardIs(x, 0, 100, new int[] {1, 0, 100}, new int[] {1, 1, 102}, new int[] {0, 0, 300});
    }

    private static void thenByLines() {
        TripRounds x = Due.with("L0:2>3;L0:0>1;L0:0>1;T2:5+5;T2:5+5;T1:9+5;T1:9+5;T1:5+5;T0:5+5");
        boardIs(x, 0, 0, new int[] {1, 2, 5}, new int[] {2, 0, 5}, new int[] {2, 1, 5}, new int[] {1, 0, 9}, new int[] {1, 1, 9});
    }

    private static void thenByTrips() {
        TripRounds x = Due.with("L0:0>1;T0:5+5;T0:5+6;T0:5+4;T0:5+7;T0:5+3;T0:5+8");
        int[][] due = new int[6][];
        for (int t = 0; t < 6; t++) due[t] = new int[] {0, t, 5};
        boardIs(x, 0, 5, due);
    }

    private static void boardOfWhatRuns() {
        TripRounds x = Due.with("L2:0>1;T0:299+5;T0:300+5;T0:1199+5;T0:1200+5");
        boardIs(x, 0, 0, new int[] {0, 0, 299}, new int[] {0, 3, 1200});
        x.drop(0);
        boardIs(x, 0, 0, new int[] {0, 0, 299});
    }

    private static void boardBehind1999() {
        TripRounds x = Due.with("L0:0>1>2;T0:1900+1+1");
        for (int k = 0; k < 70; k++) x.delay(0, 0, 1, 99);
        boardIs(x, 0, 1900, new int[] {0, 0, 1900});
        boardIs(x, 0, 1901);
        boardIs(x, 1, 1999, new int[] {0, 0, 8831});
        boardIs(x, 2, 1999);
    }

    /** All trips of all lines at one minute. */
    private static void boardOfAll() {
        TripRounds x = Due.with("L0:0>1;L0:0>1;L0:0>1;L0:0>1;L0:0>1;L0:0>1;L0:0>1;L0:0>1");
        for (int l = 0; l < 8; l++) {
            String trip = "T" + l + ":7+1";
            Due.table(x, trip + ";" + trip + ";" + trip + ";" + trip + ";" + trip + ";" + trip);
        }
        for (int i = 0; i < 48; i += i == 0 ? 1 : 46) {
            Due.due("line of row " + i, x.board(0, 7, i, 0), i / 6);
            Due.due("trip of row " + i, x.board(0, 7, i, 1), i % 6);
            Due.due("minute of row " + i, x.board(0, 7, i, 2), 7);
        }
        Due.due("a row more", x.board(0, 7, 48, 0), -5);
        Due.due("too late", x.board(0, 8, 0, 0), -5);
    }

    private static void missedByOne() {
        TripRounds x = Due.with("L0:0>1;L0:1>2;T0:5+5;T1:9+5");
        Due.due("by one", x.missed(1), 1);
        x.delay(0, 0, 1, 1);
        Due.due("by two", x.missed(1), 2);
        for (int stop = 0; stop < 12; stop++) {
            if (stop != 1) Due.due("elsewhere", x.missed(stop), -5);
        }
    }

    /** "goes on from it earlier" */
    private static void missedNotAtTheSameMinute() {
        TripRounds x = Due.with("L0:0>1;L0:1>2;T0:5+5;T1:10+5");
        Due.due("at the same", x.missed(1), -5);
        x.delay(1, 0, 0, 1);
        Due.due("later", x.missed(1), -5);
        x.delay(0, 0, 1, 2);
        Due.due("earlier", x.missed(1), 1);
    }

    private static void missedOfUnlikeLines() {
        TripRounds x = Due.with("L0:0>1>2;T0:5+5+5;T0:4+5+5;L0:3>1>4");
        Due.due("one line", x.missed(1), -5);
        Due.table(x, "T1:1+6+5");
        Due.due("two lines", x.missed(1), 2);
    }

    /** "comes to it (not its first STOP)", "goes on from it" */
    private static void missedComesAndGoes() {
        TripRounds x = Due.with("L0:1>0;L0:1>2;T0:20+5;T1:10+5");
        Due.due("neither comes", x.missed(1), -5);
        TripRounds y = Due.with("L0:0>1;L0:2>1;T0:20+5;T1:10+5");
        Due.due("neither goes on", y.missed(1), -5);
        TripRounds z = Due.with("L0:0>1;L0:1>2;T0:20+5;T1:30+5");
        Due.due("the one that goes is later", z.missed(1), -5);
    }

    /** Comes to its second stop or its last, goes on from its first or the last but one. */
    private static void missedAtEachPlace() {
        for (int comes = 0; comes < 6; comes++) {
            for (int goes = 0; goes < 6; goes++) {
                TripRounds x = Due.with("L0:0>1>2>3>4>5", "L0:" + goesOver(comes, goes));
                Due.table(x, "T0:500+1+1+1+1+1");
                Due.table(x, "T1:400+1+1+1+1+1");
                int due = comes > 0 && goes < 5 ? 100 + comes - goes : -5;
                Due.due("comes at " + comes + ", goes at " + goes, x.missed(comes), due);
            }
        }
    }

    /** Six stops of which one, at the place where the other trip goes on, is shared. */
    private static String goesOver(int shared, int place) {
        StringBuilder row = new StringBuilder();
        for (int i = 0; i < 6; i++) {
            if (i > 0) row.append('>');
            row.append(i == place ? shared : 6 + i);
        }
        return row.toString();
    }

    private static void missedOfWhatRuns() {
        TripRounds x = Due.with("L2:0>1;L1:1>2;T0:295+6;T1:1299+5;T0:300+9;T1:300+5");
        Due.due("both run", x.missed(1), 1);
        TripRounds y = Due.with("L2:0>1;L1:1>2;T0:300+6;T1:300+5");
        Due.due("who comes doesn't", y.missed(1), -5);
        TripRounds z = Due.with("L0:0>1;L1:1>2;T0:1300+9;T1:1300+5");
        Due.due("who goes doesn't", z.missed(1), -5);
        Due.table(z, "T1:1299+5");
        Due.due("both run", z.missed(1), 10);
    }

    private static void missedLeast() {
        TripRounds x = Due.with("L0:0>1;L0:3>1>4;L0:1>5;T0:50+50;T1:80+9+9;T2:70+5;T2:20+5");
        Due.due("least of all twos", x.missed(1), 11);
        Due.table(x, "T0:93+1");
        Due.due("of a later trip that comes", x.missed(1), 5);
        Due.table(x, "T2:90+1");
        Due.due("of a later trip that goes", x.missed(1), 4);
        x.drop(0);
        Due.due("without it", x.missed(1), 10);
    }

    private static void missedMost() {
        TripRounds x = Due.with("L0:0>1;L0:1>2;T0:1000+999;T1:0+1");
        Due.due("from 0 to 1999", x.missed(1), 1999);
        for (int k = 0; k < 70; k++) x.delay(0, 0, 1, 99);
        Due.due("behind 1999", x.missed(1), 8929);
        x.delay(0, 0, 1, 71);
        Due.due("at 9000", x.missed(1), 9000);
    }

    private static void meetFirstAndLast() {
        TripRounds x = Due.with("L0:0>1>2>3>4>11;L0:11>10>9>8>7>0;L0:5>6;L0:4>3>2>1");
        Due.due("first and last", x.meet(0, 1), 2049);
        Due.due("the other way", x.meet(1, 0), 2049);
        Due.due("none", x.meet(0, 2), 0);
        Due.due("all of the shorter", x.meet(0, 3), 30);
        Due.due("itself", x.meet(0, 0), 2048 + 31);
        Due.due("itself", x.meet(2, 2), 96);
        Due.due("no such line", x.meet(3, 4), NONE);
        Due.due("no such line", x.meet(4, 4), NONE);
        Due.due("no such line", x.meet(-1, 0), NONE);
    }
}
