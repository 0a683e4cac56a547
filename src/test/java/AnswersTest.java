import java.util.Arrays;

/**
 * The line "Answers:" of the document: what each call answers to each number that may not be, which answer
 * comes first of several, that nothing has changed then, and that asking changes nothing but the paper.
 */
public final class AnswersTest {
    private static final int NONE = -1, BAD = -2, STATE = -3, FULL = -4;
    private static final int NOTHING = -11, BEYOND = -13, BELOW = -14;
    private static final int LOW = Integer.MIN_VALUE, HIGH = Integer.MAX_VALUE;

    private static String untouched;
    private static String hidden;

    /** A call with its numbers. */
    private interface Call {
        int on(TripRounds x, int... a);
    }

    /** A number of a call: the first and the last that may be, those that may not, what these are answered. */
    private static final class Arg {
        final int first;
        final int last;
        final int usual;
        final int answer;
        final int[] wrong;

        Arg(int first, int last, int usual, int answer, int... wrong) {
            this.first = first;
            this.last = last;
            this.usual = usual;
            this.answer = answer;
            this.wrong = wrong;
        }
    }

    public static void main(String[] args) {
        untouched = Setting.show(Setting.fresh());
        hidden = Setting.reveal(Setting.fresh());
        settingIsRich();
        timetableCalls();
        journeyCalls();
        spanCalls();
        stopCalls();
        listCalls();
        oneTwice();
        noLeg();
        feedRefused();
        delayRefused();
        dropRefused();
        undoRefused();
        listRefused();
        setRefused();
        layRefused();
        spellChangesThePaperAlone();
        Due.end();
    }

    /** Else it would tell nothing that all is as before. */
    private static void settingIsRich() {
        TripRounds x = Setting.fresh();
        String now = Setting.net(x);
        Due.due("rows of the timetable", now.split("\n").length, 5);
        Due.due("paper", Due.paper(x), "L0.0:0>1 L1.0:1>3");
        Due.due("tape", x.told(5), 6);
        Due.due("tape read", x.table(), 1);
        Due.due("foot", x.foot(0, 3), 8);
        Due.due("undo", x.undo(), 2);
        Due.due("image is another", Setting.net(x).equals(now) ? 1 : 0, 0);
    }

    // ---- what a number may be

    /** From a first to a last one that may be. */
    private static Arg within(int first, int last, int usual, int answer) {
        return new Arg(first, last, usual, answer, LOW, first - 1, last + 1, HIGH);
    }

    private static Arg stop(int usual) {
        return within(0, 11, usual, NONE);
    }

    private static Arg minute() {
        return within(0, 1999, 0, BAD);
    }

    private static Arg rides() {
        return within(0, 6, 2, BAD);
    }

    private static Arg what(int last) {
        return within(0, last, 0, NONE);
    }

    // ---- how a call is held against it

    private static void unchanged(String name, TripRounds x) {
        Due.due(name + ": all behind it", Setting.show(x), untouched);
        Due.due(name + ": tape and image behind it", Setting.reveal(x), hidden);
    }

    private static void refused(String name, int due, Call call, int... a) {
        TripRounds x = Setting.fresh();
        String told = name + Arrays.toString(a);
        Due.due(told, call.on(x, a), due);
        unchanged(told, x);
    }

    private static void asked(String name, int refusal, Call call, int... a) {
        TripRounds x = Setting.fresh();
        String told = name + Arrays.toString(a);
        Due.due(told + " is refused", call.on(x, a) == refusal ? 1 : 0, 0);
        unchanged(told, x);
    }

    private static int[] usual(Arg... args) {
        int[] a = new int[args.length];
        for (int k = 0; k < a.length; k++) a[k] = args[k].usual;
        return a;
    }

    /** Refused for each number alone and for all of several together: NONE comes ahead of BAD. */
    private static void wrong(String name, Call call, Arg... args) {
        for (int k = 0; k < args.length; k++) {
            for (int number : args[k].wrong) {
                int[] a = usual(args);
                a[k] = number;
                refused(name, args[k].answer, call, a);
            }
        }
        for (int set = 1; set < 1 << args.length; set++) {
            int[] a = usual(args);
            int due = 0;
            for (int k = 0; k < a.length; k++) {
                if ((set >> k & 1) == 0) continue;
                a[k] = args[k].wrong[(set + k) % args[k].wrong.length];
                if (due == 0 || args[k].answer == NONE) due = args[k].answer;
            }
            refused(name, due, call, a);
        }
    }

    /** A call that only asks: refused as told, not refused at either end of what may be, and changes nothing. */
    private static void asking(String name, Call call, Arg... args) {
        wrong(name, call, args);
        for (int k = 0; k < args.length; k++) {
            int[] a = usual(args);
            a[k] = args[k].first;
            asked(name, args[k].answer, call, a);
            a[k] = args[k].last;
            asked(name, args[k].answer, call, a);
        }
    }

    // ---- the calls

    private static void timetableCalls() {
        Arg line = within(0, 2, 0, NONE);
        Arg lineWithTrips = within(0, 1, 0, NONE);
        Arg trip = within(0, 1, 0, NONE);
        Arg place = within(0, 2, 0, NONE);
        asking("line", (x, a) -> x.line(a[0], a[1]), line, what(3));
        asking("stop", (x, a) -> x.stop(a[0], a[1]), line, place);
        asking("minute", (x, a) -> x.minute(a[0], a[1], a[2]), lineWithTrips, trip, place);
        asking("runs", (x, a) -> x.runs(a[0], a[1]), lineWithTrips, trip);
        asking("foot", (x, a) -> x.foot(a[0], a[1]), stop(5), stop(3));
        asking("meet", (x, a) -> x.meet(a[0], a[1]), line, line);
        asking("told", (x, a) -> x.told(a[0]), what(6));
        wrong("walk", (x, a) -> x.walk(a[0], a[1], a[2]), stop(2), stop(4), within(0, 60, 5, BAD));
        wrong("delay", (x, a) -> x.delay(a[0], a[1], a[2], a[3]), lineWithTrips, trip, place, within(1, 99, 5, BAD));
    }

    private static void journeyCalls() {
        asking("earliest", (x, a) -> x.earliest(a[0], a[1], a[2], a[3]), stop(0), minute(), stop(3), rides());
        asking("worth", (x, a) -> x.worth(a[0], a[1], a[2]), stop(0), minute(), stop(3));
        asking("legs", (x, a) -> x.legs(a[0], a[1], a[2], a[3]), stop(0), minute(), stop(3), rides());
        asking("fare", (x, a) -> x.fare(a[0], a[1], a[2], a[3]), stop(0), minute(), stop(3), rides());
        asking("waiting", (x, a) -> x.waiting(a[0], a[1], a[2], a[3]), stop(0), minute(), stop(3), rides());
        wrong("spell", (x, a) -> x.spell(a[0], a[1], a[2], a[3]), stop(0), minute(), stop(3), rides());
        asking("paper", (x, a) -> x.paper(a[0]), within(0, 16, 0, NONE));
        // At the ends of the other numbers there is no journey with a leg.
        Arg from = new Arg(0, 0, 0, NONE, LOW, -1, 12, HIGH);
        Arg at = new Arg(0, 15, 0, BAD, LOW, -1, 2000, HIGH);
        Arg to = new Arg(3, 3, 3, NONE, LOW, -1, 12, HIGH);
        Arg most = new Arg(2, 6, 2, BAD, LOW, -1, 7, HIGH);
        Arg i = new Arg(0, 1, 0, NONE, LOW, -1);
        asking("leg", (x, a) -> x.leg(a[0], a[1], a[2], a[3], a[4], a[5]), from, at, to, most, i, what(5));
    }

    private static void spanCalls() {
        asking("latest", (x, a) -> x.latest(a[0], a[1], a[2], a[3]), stop(0), stop(3), minute(), rides());
        asking("reached", (x, a) -> x.reached(a[0], a[1], a[2], a[3]), stop(0), minute(), minute(), rides());
        asking("worst", (x, a) -> x.worst(a[0], a[1], a[2], a[3], a[4]), stop(5), minute(), stop(3), rides(), what(1));
        asking("cut", (x, a) -> x.cut(a[0], a[1], a[2], a[3], a[4]), stop(5), minute(), stop(3), rides(), what(1));
        Call profile = (x, a) -> x.profile(a[0], a[1], a[2], a[3], a[4], a[5]);
        Arg first = new Arg(6, 105, 105, BAD, LOW, -1, 5, 106, 2000, HIGH);
        Arg last = new Arg(105, 204, 105, BAD, LOW, -1, 104, 205, 2000, HIGH);
        Arg i = new Arg(-1, HIGH, 0, NONE, LOW, -2);
        asking("profile", profile, stop(0), stop(3), rides(), first, new Arg(105, 105, 105, BAD, LOW, 2000), i);
        asking("profile", profile, stop(0), stop(3), rides(), new Arg(105, 105, 105, BAD, -1, HIGH), last, i);
        Call counted = (x, a) -> x.profile(0, 3, 2, a[0], a[1], -1);
        asking("profile from 0", counted, new Arg(0, 0, 0, BAD, LOW, -1), new Arg(0, 99, 9, BAD, LOW, -1, 100, HIGH));
        asking("profile to 1999", counted, new Arg(1900, 1999, 1950, BAD, 1899, 2000), new Arg(1999, 1999, 1999, BAD, 2000, LOW));
    }

    private static void stopCalls() {
        Arg i = new Arg(0, HIGH, 0, NONE, LOW, -1);
        asking("board", (x, a) -> x.board(a[0], a[1], a[2], a[3]), stop(1), minute(), i, what(2));
        asking("missed", (x, a) -> x.missed(a[0]), stop(1));
    }

    private static void listCalls() {
        Arg list = within(0, 3, 0, NONE);
        Arg held = within(0, 2, 0, NONE);
        held.wrong[2] = 4;
        wrong("list", (x, a) -> x.list(a[0], 5), list);
        wrong("list", (x, a) -> x.list(a[0], a[1]), list, new Arg(0, 20, 5, BAD, 21, HIGH));
        wrong("set", (x, a) -> x.set(a[0], 0, 5), list);
        wrong("lay", (x, a) -> x.lay(a[0], 0, a[1], a[2], a[3]), list, stop(0), minute(), rides());
        asking("judge", (x, a) -> x.judge(a[0], 0, a[1], a[2], a[3]), held, stop(0), minute(), rides());
        int none = Setting.NOTHING_THERE;
        asking("get", (x, a) -> x.get(a[0], 0), new Arg(0, 1, 0, none, LOW, -1, 2, 3, 4, HIGH));
        asking("get", (x, a) -> x.get(0, a[0]), new Arg(0, 11, 0, none, LOW, -1, 12, HIGH));
    }

    /** "NONE: either (one twice, too)", ahead of each BAD. */
    private static void oneTwice() {
        for (int stop = 0; stop < 12; stop++) {
            refused("foot", NONE, (x, a) -> x.foot(a[0], a[0]), stop);
            refused("walk", NONE, (x, a) -> x.walk(a[0], a[0], 5), stop);
            refused("walk", NONE, (x, a) -> x.walk(a[0], a[0], 0), stop);
            refused("walk", NONE, (x, a) -> x.walk(a[0], a[0], 61), stop);
            refused("cut", NONE, (x, a) -> x.cut(a[0], 0, a[0], 2, 0), stop);
            refused("cut", NONE, (x, a) -> x.cut(a[0], 2000, a[0], 7, 1), stop);
        }
    }

    /** "or there is none": behind the last leg, where there is no journey, where one is already. */
    private static void noLeg() {
        refused("leg", NONE, (x, a) -> x.leg(0, 0, 3, 2, 2, 0));
        refused("leg", NONE, (x, a) -> x.leg(0, 0, 3, 2, HIGH, 5));
        refused("leg", NONE, (x, a) -> x.leg(0, 0, 3, 1, 0, 0));
        refused("leg", NONE, (x, a) -> x.leg(0, 1999, 3, 6, 0, 0));
        refused("leg", NONE, (x, a) -> x.leg(3, 0, 3, 6, 0, 0));
    }

    private static void feedRefused() {
        for (int letter : new int[] {LOW, -1, 0, 128, HIGH}) refused("feed", BAD, (x, a) -> x.feed(a[0]), letter);
        TripRounds x = new TripRounds();
        Due.feed(x, "F0-1=01;F0-1=02;F0-1=03;F0-1=04;F0-1=05;F0-1=06;F0-1=07;F0-1=08;F0-1=09;F10-11=1");
        Due.due("bytes", x.told(5), 80);
        for (int letter : new int[] {1, ';', '0', 127}) Due.due("feed to a full tape", x.feed(letter), FULL);
        for (int letter : new int[] {LOW, 0, 128, HIGH}) Due.due("feed BAD to a full tape", x.feed(letter), BAD);
        Due.due("bytes", x.told(5), 80);
        Due.due("table", x.table(), 10);
        Due.due("foot", x.foot(0, 1), 9);
        Due.due("foot", x.foot(10, 11), 1);
    }

    /** FULL behind NONE and BAD; what its last minute forbids moves none of the others. */
    private static void delayRefused() {
        for (int place = 0; place < 3; place++) {
            TripRounds x = Due.with("L0:0>1>2;T0:100+100+800;T0:1+1+1");
            for (int k = 0; k < 80; k++) x.delay(0, 0, 2, 99);
            Due.due("delay", x.delay(0, 0, 2, 30), 8950);
            String before = Setting.net(x);
            for (int more : new int[] {51, 99}) Due.due("delay", x.delay(0, 0, place, more), FULL);
            Due.due("delay", x.delay(0, 0, place, 100), BAD);
            Due.due("delay", x.delay(0, 0, place, HIGH), BAD);
            Due.due("delay", x.delay(0, 0, 3, 51), NONE);
            Due.due("delay", x.delay(0, 2, place, 51), NONE);
            Due.due("delay", x.delay(1, 0, place, 51), NONE);
            Due.due("all behind it", Setting.net(x), before);
            Due.due("delay", x.delay(0, 0, place, 50), place == 2 ? 9000 : 150 + 100 * place);
            Due.due("last minute", x.minute(0, 0, 2), 9000);
            Due.due("delay", x.delay(0, 0, place, 1), FULL);
            Due.due("last minute", x.minute(0, 0, 2), 9000);
        }
    }

    private static void dropRefused() {
        for (int line : new int[] {LOW, -1, 3, HIGH}) refused("drop", NONE, (x, a) -> x.drop(a[0]), line);
        refused("drop", STATE, (x, a) -> x.drop(2));
    }

    private static void undoRefused() {
        TripRounds x = Due.with("L0:0>1>2;T0:100+100+800;F3-4=5");
        Due.feed(x, "F3-4=6");
        x.list(3, 2);
        String before = Setting.show(x);
        Due.due("undo", x.undo(), STATE);
        Due.due("undo", x.undo(), STATE);
        Due.due("all behind it", Setting.show(x), before);
        Due.due("table", x.table(), 1);
        Due.due("foot", x.foot(3, 4), 6);
    }

    private static void listRefused() {
        for (int list = 0; list < 4; list++) {
            for (int n : new int[] {21, 22, HIGH}) refused("list", BAD, (x, a) -> x.list(a[0], a[1]), list, n);
            for (int n : new int[] {-1, -2, LOW}) refused("list", BELOW, (x, a) -> x.list(a[0], a[1]), list, n);
        }
        for (int list : new int[] {LOW, -1, 4, HIGH}) {
            for (int n : new int[] {LOW, -1, 0, 20, 21, HIGH}) refused("list", NONE, (x, a) -> x.list(a[0], a[1]), list, n);
        }
    }

    private static void setRefused() {
        for (int i : new int[] {LOW, -1, 0, 1, 19, 20, HIGH}) {
            refused("set", NOTHING, (x, a) -> x.set(3, a[0], 5), i);
            refused("set", BEYOND, (x, a) -> x.set(2, a[0], 5), i);
            refused("set", NONE, (x, a) -> x.set(4, a[0], 5), i);
        }
        for (int i : new int[] {LOW, -1, 12, 19, 20, HIGH}) refused("set", BEYOND, (x, a) -> x.set(0, a[0], 5), i);
        for (int i : new int[] {LOW, -1, 3, 19, 20, HIGH}) refused("set", BEYOND, (x, a) -> x.set(1, a[0], 5), i);
    }

    /** NOTHING behind BAD, BEYOND behind NOTHING; no place is laid into if the first isn't there. */
    private static void layRefused() {
        for (int i : new int[] {LOW, -1, 0, 19, HIGH}) {
            refused("lay", NOTHING, (x, a) -> x.lay(3, a[0], 0, 0, 2), i);
            refused("lay", BAD, (x, a) -> x.lay(3, a[0], 0, 2000, 2), i);
            refused("lay", BAD, (x, a) -> x.lay(3, a[0], 0, 0, 7), i);
            refused("lay", NONE, (x, a) -> x.lay(3, a[0], 12, 0, 7), i);
            refused("lay", BEYOND, (x, a) -> x.lay(2, a[0], 0, 0, 2), i);
            refused("judge", NOTHING, (x, a) -> x.judge(3, a[0], 0, 0, 2), i);
            refused("judge", BAD, (x, a) -> x.judge(3, a[0], 0, -1, 2), i);
            refused("judge", BAD, (x, a) -> x.judge(3, a[0], 0, 0, -1), i);
            refused("judge", NONE, (x, a) -> x.judge(3, a[0], -1, -1, 2), i);
        }
        for (int i : new int[] {LOW, -12, -1, 12, 20, HIGH}) {
            refused("lay", BEYOND, (x, a) -> x.lay(0, a[0], 3, 9, 2), i);
            refused("judge", 100, (x, a) -> x.judge(0, a[0], 3, 9, 2), i);
        }
    }

    private static void spellChangesThePaperAlone() {
        String paper = "paper 17 L0.0:0>1 L1.0:1>3";
        Due.due("paper told", untouched.contains(paper) ? 1 : 0, 1);
        TripRounds x = Setting.fresh();
        Due.due("spell", x.spell(0, 0, 4, 1), 14);
        Due.due("all behind it", Setting.show(x), untouched.replace(paper, "paper 14 L0.0:0>2 W:2>4"));
        Due.due("tape and image behind it", Setting.reveal(x), hidden);
        TripRounds y = Setting.fresh();
        Due.due("spell", y.spell(9, 5, 9, 0), 0);
        Due.due("all behind it", Setting.show(y), untouched.replace(paper, "paper 0 "));
        Due.due("tape and image behind it", Setting.reveal(y), hidden);
        refused("spell", -5, (z, a) -> z.spell(0, 0, 3, 1));
    }
}
