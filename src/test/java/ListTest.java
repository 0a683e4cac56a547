/** Promises 30 to 34: lists, what is laid into them and what they judge. */
public final class ListTest {
    private static final int NONE = -1, BAD = -2, NOTHING = -11, BEYOND = -13, BELOW = -14;
    private static final int NO_PLACE = -2000000000;
    private static final int LOW = Integer.MIN_VALUE, HIGH = Integer.MAX_VALUE;

    public static void main(String[] args) {
        listSetGet();
        lay();
        judge();
        wrongNumbers();
        Due.end();
    }

    private static void listSetGet() {
        TripRounds x = new TripRounds();
        Due.due("get", x.get(0, 0), NO_PLACE);
        Due.due("set", x.set(0, 0, 5), NOTHING);
        Due.due("set", x.set(0, -1, 5), NOTHING);
        Due.due("list", x.list(0, 20), 1);
        Due.due("list", x.list(3, 1), 1);
        Due.due("get", x.get(0, 19), 0);
        Due.due("get", x.get(0, 20), NO_PLACE);
        Due.due("get", x.get(0, -1), NO_PLACE);
        Due.due("get", x.get(0, LOW), NO_PLACE);
        Due.due("get", x.get(0, HIGH), NO_PLACE);
        Due.due("set", x.set(0, 19, LOW), 1);
        Due.due("set", x.set(0, 0, HIGH), 1);
        Due.due("set", x.set(0, 20, 1), BEYOND);
        Due.due("set", x.set(0, -1, 1), BEYOND);
        Due.due("set", x.set(3, 1, 1), BEYOND);
        Due.due("get", x.get(0, 19), LOW);
        Due.due("get", x.get(0, 0), HIGH);
        Due.due("get", x.get(3, 0), 0);
        Due.due("list", x.list(0, 21), BAD);
        Due.due("list", x.list(0, HIGH), BAD);
        Due.due("list", x.list(0, -1), BELOW);
        Due.due("list", x.list(0, LOW), BELOW);
        Due.due("get", x.get(0, 19), LOW);
        Due.due("list", x.list(0, 20), 1);
        Due.due("get", x.get(0, 19), 0);
        Due.due("list", x.list(0, 0), 1);
        Due.due("get", x.get(0, 0), NO_PLACE);
        Due.due("set", x.set(0, 0, 1), BEYOND);
        for (int bad : new int[] {LOW, -1, 4, HIGH}) {
            Due.due("list", x.list(bad, 99), NONE);
            Due.due("list", x.list(bad, -9), NONE);
            Due.due("set", x.set(bad, 0, 0), NONE);
            Due.due("get", x.get(bad, 0), NO_PLACE);
        }
    }

    private static TripRounds net() {
        return Due.with("L0:0>1>3;T0:10+5+5;F3-11=9");
    }

    private static void lay() {
        TripRounds x = net();
        Due.due("lay", x.lay(0, 0, 0, 7, 1), NOTHING);
        x.list(0, 20);
        Due.due("lay", x.lay(0, 8, 0, 7, 1), 12);
        int[] due = {7, 15, -1, 20, -1, -1, -1, -1, -1, -1, -1, 29};
        Due.due("get", x.get(0, 7), 0);
        for (int s = 0; s < 12; s++) Due.due("get", x.get(0, 8 + s), due[s]);
        x.list(1, 20);
        Due.due("lay", x.lay(1, 9, 0, 7, 1), BEYOND);
        for (int s = 0; s < 11; s++) Due.due("get", x.get(1, 9 + s), due[s]);
        x.list(1, 2);
        Due.due("lay", x.lay(1, 1, 0, 7, 1), BEYOND);
        Due.due("get", x.get(1, 0), 0);
        Due.due("get", x.get(1, 1), 7);
        for (int place : new int[] {LOW, -1, 2, 20, HIGH}) {
            x.list(1, 2);
            Due.due("lay", x.lay(1, place, 0, 7, 1), BEYOND);
            Due.due("get", x.get(1, 0), 0);
            Due.due("get", x.get(1, 1), 0);
        }
        x.list(2, 12);
        Due.due("lay", x.lay(2, 0, 0, 7, 0), 12);
        Due.due("get", x.get(2, 0), 7);
        Due.due("get", x.get(2, 1), -1);
    }

    private static void judge() {
        TripRounds x = net();
        Due.due("judge", x.judge(0, 0, 0, 7, 1), NOTHING);
        x.list(0, 20);
        x.lay(0, 8, 0, 7, 1);
        Due.due("judge", x.judge(0, 8, 0, 7, 1), -5);
        Due.due("judge", x.judge(0, 8, 0, 8, 1), 0);
        Due.due("judge", x.judge(0, 8, 0, 7, 0), 1);
        Due.due("judge", x.judge(0, 7, 0, 7, 1), 0);
        x.set(0, 19, 28);
        Due.due("judge", x.judge(0, 8, 0, 7, 1), 11);
        x.set(0, 10, -5);
        Due.due("judge", x.judge(0, 8, 0, 7, 1), 2);
        x.list(1, 20);
        x.lay(1, 9, 0, 7, 1);
        Due.due("judge", x.judge(1, 9, 0, 7, 1), 111);
        x.set(1, 12, 0);
        Due.due("judge", x.judge(1, 9, 0, 7, 1), 3);
        Due.due("judge", x.judge(1, 20, 0, 7, 1), 100);
        Due.due("judge", x.judge(1, HIGH, 0, 7, 1), 100);
        Due.due("judge", x.judge(1, -1, 0, 7, 1), 100);
        Due.due("judge", x.judge(1, LOW, 0, 7, 1), 100);
        x.list(2, 0);
        Due.due("judge", x.judge(2, 0, 0, 7, 1), 100);
        x.list(2, 1);
        x.set(2, 0, 7);
        Due.due("judge", x.judge(2, 0, 0, 7, 1), 101);
    }

    private static int ask(TripRounds x, boolean lays, int list, int from, int at, int rides) {
        return lays ? x.lay(list, 0, from, at, rides) : x.judge(list, 0, from, at, rides);
    }

    private static void wrongNumbers() {
        TripRounds x = net();
        x.list(1, 12);
        for (boolean lays : new boolean[] {true, false}) {
            for (int bad : new int[] {LOW, -1, 4, HIGH}) {
                Due.due("list", ask(x, lays, bad, 0, 0, 0), NONE);
                Due.due("list", ask(x, lays, bad, 0, -1, 9), NONE);
            }
            for (int bad : new int[] {LOW, -1, 12, HIGH}) {
                Due.due("from", ask(x, lays, 1, bad, 0, 0), NONE);
                Due.due("from", ask(x, lays, 0, bad, -1, 9), NONE);
            }
            for (int bad : new int[] {LOW, -1, 2000, HIGH}) {
                Due.due("at", ask(x, lays, 1, 0, bad, 0), BAD);
                Due.due("at", ask(x, lays, 0, 0, bad, 0), BAD);
            }
            for (int bad : new int[] {LOW, -1, 7, HIGH}) {
                Due.due("rides", ask(x, lays, 1, 0, 0, bad), BAD);
                Due.due("rides", ask(x, lays, 0, 0, 0, bad), BAD);
            }
            Due.due("nothing", ask(x, lays, 0, 0, 0, 0), NOTHING);
        }
        for (int i = 0; i < 12; i++) Due.due("get", x.get(1, i), 0);
    }
}
