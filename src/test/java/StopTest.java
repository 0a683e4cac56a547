/** Promises 24 to 26: the board of a stop, who is missed there, where lines meet. */
public final class StopTest {
    private static final int NONE = -1, BAD = -2;
    private static final int LOW = Integer.MIN_VALUE, HIGH = Integer.MAX_VALUE;

    public static void main(String[] args) {
        board();
        missed();
        meet();
        Due.end();
    }

    private static void rowIs(TripRounds x, int from, int i, int... due) {
        for (int what = 0; what < 3; what++) {
            Due.due("board row " + i + " what " + what, x.board(1, from, i, what), due[what]);
        }
    }

    private static void board() {
        TripRounds x = Due.with("L0:0>1>2;T0:20+10+5;T0:0+10+5;L2:1>5;T1:30+5;T1:10+1;T1:400+1",
            "L0:6>1;T2:5+6;T1:30+9");
        rowIs(x, 0, 0, 0, 1, 10);
        rowIs(x, 0, 1, 1, 1, 10);
        rowIs(x, 0, 2, 0, 0, 30);
        rowIs(x, 0, 3, 1, 0, 30);
        rowIs(x, 0, 4, 1, 3, 30);
        rowIs(x, 0, 5, -5, -5, -5);
        rowIs(x, 0, HIGH, -5, -5, -5);
        rowIs(x, 10, 0, 0, 1, 10);
        rowIs(x, 11, 0, 0, 0, 30);
        rowIs(x, 30, 2, 1, 3, 30);
        rowIs(x, 31, 0, -5, -5, -5);
        x.delay(0, 1, 1, 30);
        rowIs(x, 0, 0, 1, 1, 10);
        rowIs(x, 31, 0, 0, 1, 40);
        x.delay(0, 1, 0, 5);
        for (int i = 0; i < 30; i++) x.delay(0, 1, 1, 99);
        rowIs(x, 1999, 0, 0, 1, 45 + 2970);
        Due.due("board", x.board(2, 0, 0, 0), -5);
        Due.due("board", x.board(11, 0, 0, 0), -5);
        Due.due("board", x.board(1, 0, -1, 0), NONE);
        Due.due("board", x.board(1, 0, LOW, 0), NONE);
        Due.due("board", x.board(1, 0, 0, -1), NONE);
        Due.due("board", x.board(1, 0, 0, 3), NONE);
        Due.due("board", x.board(1, 0, 99, 3), NONE);
        Due.due("board", x.board(1, -1, 0, 3), NONE);
        for (int bad : new int[] {LOW, -1, 12, HIGH}) {
            Due.due("board", x.board(bad, 0, 0, 0), NONE);
            Due.due("board", x.board(bad, -1, 0, 0), NONE);
        }
        for (int bad : new int[] {LOW, -1, 2000, HIGH}) Due.due("board", x.board(1, bad, 0, 0), BAD);
        fullBoard();
    }

    /** All 48 trips go on from one stop, the last ones first. */
    private static void fullBoard() {
        TripRounds x = new TripRounds();
        for (int l = 0; l < 8; l++) {
            Due.table(x, "L0:1>0");
            for (int t = 0; t < 6; t++) Due.table(x, "T" + l + ":" + (1000 - 10 * l - t) + "+5");
        }
        Due.due("told", x.told(1), 48);
        Due.due("board", x.board(1, 0, 47, 2), 1000);
        Due.due("board", x.board(1, 0, 47, 0), 0);
        Due.due("board", x.board(1, 0, 0, 0), 7);
        Due.due("board", x.board(1, 0, 0, 1), 5);
        Due.due("board", x.board(1, 0, 48, 0), -5);
    }

    private static void missed() {
        TripRounds x = Due.with("L0:0>1>2;T0:20+10+5;L0:1>3;T1:30+5");
        Due.due("missed", x.missed(1), -5);
        Due.table(x, "T1:25+5");
        Due.due("missed", x.missed(1), 5);
        Due.table(x, "T1:31+5;T1:28+5;T1:1+1");
        Due.due("missed", x.missed(1), 2);
        Due.due("missed", x.missed(0), -5);
        Due.due("missed", x.missed(2), -5);
        Due.due("missed", x.missed(3), -5);
        x.delay(0, 0, 1, 2);
        Due.due("missed", x.missed(1), 1);
        // The same line's trips don't miss one another; nor does who ends there go on.
        TripRounds y = Due.with("L0:0>1>2;T0:20+10+5;T0:19+10+5;L0:4>1;T1:5+24");
        Due.due("missed", y.missed(1), -5);
        Due.table(y, "T1:5+26");
        Due.due("missed", y.missed(1), 1);
        // Who begins there doesn't come to it, and who doesn't run is not missed.
        TripRounds z = Due.with("L0:1>2;T0:30+5;L0:1>3;T1:20+5;L2:0>1;T2:500+9;L2:1>5;T3:600+3");
        Due.due("missed", z.missed(1), -5);
        Due.table(z, "L0:7>1;T4:600+9");
        Due.due("missed", z.missed(1), 579);
        Due.due("missed", z.missed(7), -5);
        for (int bad : new int[] {LOW, -1, 12, HIGH}) Due.due("missed", x.missed(bad), NONE);
    }

    private static void meet() {
        TripRounds x = Due.with("L0:0>1>11;L0:11>5>0;L0:6>7");
        Due.due("meet", x.meet(0, 1), 1 + 2048);
        Due.due("meet", x.meet(1, 0), 1 + 2048);
        Due.due("meet", x.meet(0, 2), 0);
        Due.due("meet", x.meet(0, 0), 1 + 2 + 2048);
        for (int bad : new int[] {LOW, -1, 3, HIGH}) {
            Due.due("meet", x.meet(bad, 0), NONE);
            Due.due("meet", x.meet(0, bad), NONE);
        }
    }
}
