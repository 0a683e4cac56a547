/** Promises 1 to 12, 29, 35 and 36: the tape, what a timetable is and what it leaves. */
public final class TableTest {
    private static final int NONE = -1, BAD = -2, STATE = -3, FULL = -4;
    private static final int LOW = Integer.MIN_VALUE, HIGH = Integer.MAX_VALUE;

    public static void main(String[] args) {
        newObject();
        tape();
        lineFaults();
        tripFaults();
        pathFaults();
        delayFaults();
        partsCount();
        faultDoesNothing();
        lines();
        kindsRun();
        paths();
        delays();
        drops();
        told();
        image();
        Due.end();
    }

    private static void fault(String text, int place, String... ahead) {
        TripRounds x = Due.with(ahead);
        Due.due("table of " + text, Due.table(x, text), -100 - place);
        Due.due("tape behind " + text, x.told(5), 0);
    }

    private static void fine(String text, int parts, String... ahead) {
        TripRounds x = Due.with(ahead);
        Due.due("table of " + text, Due.table(x, text), parts);
        Due.due("tape behind " + text, x.told(5), 0);
    }

    private static void newObject() {
        TripRounds x = new TripRounds();
        Due.due("told(0)", x.told(0), 0);
        Due.due("told(2)", x.told(2), 0);
        Due.due("foot", x.foot(0, 11), -5);
        Due.due("line", x.line(0, 0), NONE);
        for (int list = 0; list < 4; list++) Due.due("set", x.set(list, 0, 1), -11);
        Due.due("paper", x.paper(0), NONE);
        Due.due("undo", x.undo(), STATE);
    }

    private static void tape() {
        TripRounds x = new TripRounds();
        Due.due("feed(0)", x.feed(0), BAD);
        Due.due("feed(128)", x.feed(128), BAD);
        Due.due("feed(-1)", x.feed(-1), BAD);
        Due.due("feed(low)", x.feed(LOW), BAD);
        Due.due("clear()", x.clear(), 0);
        for (int i = 1; i <= 80; i++) Due.due("feed", x.feed(i % 2 == 0 ? 1 : 127), i);
        Due.due("feed(1)", x.feed(1), FULL);
        Due.due("feed(0)", x.feed(0), BAD);
        Due.due("told(5)", x.told(5), 80);
        Due.due("clear()", x.clear(), 80);
        Due.due("clear()", x.clear(), 0);
        Due.due("feed(76)", x.feed(76), 1);
        Due.due("table()", x.table(), -101);
        Due.due("clear()", x.clear(), 0);
        Due.due("table()", x.table(), -100);
    }

    private static void lineFaults() {
        fault("", 0);
        fault("X", 0);
        fault("l0:0>1", 0);
        fault("L", 1);
        fault("L6", 1);
        fault("L6:0>1", 1);
        fault("Lx", 1);
        fault("L0", 2);
        fault("L00", 2);
        fault("L0:", 3);
        fault("L0:>", 3);
        fault("L0:1", 4);
        fault("L0:1;", 4);
        fault("L0:1>", 5);
        fault("L0:12", 3);
        fault("L0:12>1", 3);
        fault("L0:99x", 3);
        fault("L0:0>123", 5);
        fault("L0:0>113", 7);
        fault("L0:3>3", 5);
        fault("L0:3>03", 5);
        fault("L0:3>4>3x", 7);
        fault("L0:3>4>", 7);
        fault("L0:3>4 ", 6);
        fault("L0:0>1>2>3>4>5>6", 14);
        fault("L0:0>1>2>3>4>5+", 14);
        fault("L0:0>1;", 7);
        fault("L0:0>1;;", 7);
        fine("L0:0>1", 1);
        fine("L5:00>1", 1);
        fault("L0:011>1", 5);
        fine("L0:11>10>09>8>7>06", 1);
        String four = "L0:0>1;L0:0>1;L0:0>1;L0:0>1";
        String three = "L0:0>1;L0:0>1;L0:0>1";
        fault("L", 0, four, four);
        fault("L9", 0, four, four);
        fault("F0-1=1;Lx", 7, four, four);
        fine("L0:0>1", 1, four, three);
        fault("L0:0>1;L", 7, four, three);
    }

    private static void tripFaults() {
        String two = "L0:0>1;L0:2>3>4>5>6>7";
        fault("T", 1, two);
        fault("Tx", 1, two);
        fault("T0", 1);
        fault("T2", 1, two);
        fault("T2:5+5", 1, two);
        fault("T0", 2, two);
        fault("T00", 2, two);
        fault("T0:", 3, two);
        fault("T0:x", 3, two);
        fault("T0:2000", 3, two);
        fault("T0:2000x", 3, two);
        fault("T0:20000", 3, two);
        fault("T0:00005", 7, two);
        fault("T0:5", 4, two);
        fault("T0:5;", 4, two);
        fault("T0:5+", 5, two);
        fault("T0:5++", 5, two);
        fault("T0:5+0", 5, two);
        fault("T0:5+000", 5, two);
        fault("T0:5+0001", 5, two);
        fault("T0:5+0011", 8, two);
        fault("T0:1999+1", 8, two);
        fault("T0:1998+2x", 8, two);
        fault("T0:1000+1000", 11, two);
        fault("T0:1001+999", 8, two);
        fault("T0:5+5+5", 6, two);
        fault("T1:5+1+1+1+1", 12, two);
        fault("T1:5+1+1+1+1;", 12, two);
        fault("T1:1990+5+1+1+1+2", 16, two);
        fine("T1:1990+5+1+1+1+1", 1, two);
        fine("T0:0+999", 1, two);
        fine("T0:1998+1", 1, two);
        fine("T0:0007+007", 1, two);
        String six = "T0:1+1;T0:1+1;T0:1+1;T0:1+1;T0:1+1;T0:1+1";
        String five = "T0:1+1;T0:1+1;T0:1+1;T0:1+1;T0:1+1";
        fault("T0", 0, two, six);
        fault("T0:9999", 0, two, six);
        fault("T2", 1, two, six);
        fine("T1:1+1+1+1+1+1", 1, two, six);
        fine("T0:5+5", 1, two, five);
        fault("T0:5+5;T0:", 7, two, five);
    }

    private static void pathFaults() {
        fault("F", 1);
        fault("F-", 1);
        fault("F12", 1);
        fault("F1", 2);
        fault("F1=", 2);
        fault("F111", 3);
        fault("F1-", 3);
        fault("F1-1", 3);
        fault("F1-01=5", 3);
        fault("F1-12=5", 3);
        fault("F1-2", 4);
        fault("F1-2-", 4);
        fault("F1-2=", 5);
        fault("F1-2=0", 5);
        fault("F1-2=00", 5);
        fault("F1-2=61", 5);
        fault("F1-2=99x", 5);
        fault("F1-2=100", 7);
        fault("F1-2=5 ", 6);
        fine("F1-2=60", 1);
        fine("F01-11=01", 1);
        fine("F1-2=6;F2-1=7;F1-2=8", 3);
    }

    private static void delayFaults() {
        String[] net = {"L0:0>1;T0:5+5;L0:2>3"};
        fault("D", 1, net);
        fault("D2", 1, net);
        fault("D0", 1);
        fault("D0", 2, net);
        fault("D00", 2, net);
        fault("D0.", 3, net);
        fault("D0.1", 3, net);
        fault("D1.0", 3, net);
        fault("D0.0", 4, net);
        fault("D0.0.", 4, net);
        fault("D0.00@0+5", 4, net);
        fault("D00.0@0+5", 2, net);
        fault("D0.0@", 5, net);
        fault("D0.0@2", 5, net);
        fault("D0.0@9+5", 5, net);
        fault("D0.0@1", 6, net);
        fault("D0.0@01", 6, net);
        fault("D0.0@1+", 7, net);
        fault("D0.0@1+0", 7, net);
        fault("D0.0@1+00", 7, net);
        fault("D0.0@1+005", 7, net);
        fault("D0.0@1+100", 9, net);
        fault("D0.0@1+5x", 8, net);
        fine("D0.0@0+99", 1, net);
        TripRounds x = Due.with("L0:0>1;T0:1000+999");
        for (int i = 0; i < 70; i++) x.delay(0, 0, 1, 99);
        Due.due("minute", x.minute(0, 0, 1), 8929);
        Due.due("table", Due.table(x, "F0-1=5;D0.0@0+72"), -107);
        Due.due("table", Due.table(x, "F0-1=5;D0.0@0+72x"), -107);
        Due.due("table", Due.table(x, "D0.0@0+71"), 1);
        Due.due("minute", x.minute(0, 0, 1), 9000);
        Due.due("table", Due.table(x, "D0.0@1+1"), -100);
    }

    private static void partsCount() {
        TripRounds x = new TripRounds();
        Due.due("table", Due.table(x, "L1:0>1>2;T0:10+5+5;F2-4=7;D0.0@1+3;T0:1400+1+1"), 5);
        Due.due("minute", x.minute(0, 0, 0), 10);
        Due.due("minute", x.minute(0, 0, 1), 18);
        Due.due("minute", x.minute(0, 0, 2), 23);
        Due.due("minute", x.minute(0, 1, 2), 1402);
        Due.due("foot", x.foot(4, 2), 7);
        Due.due("runs", x.runs(0, 0), 1);
        Due.due("runs", x.runs(0, 1), 0);
    }

    private static void faultDoesNothing() {
        TripRounds x = Due.with("L0:0>1;T0:10+5;F0-1=9");
        int[] faults = {
            Due.table(x, "L0:5>6;T1:5+5;F0-1=3;F3-4=5;D0.0@0+9;T0:7+7;Z"),
            Due.table(x, "D0.0@0+9;T0:7+"), Due.table(x, "L0:5>6;L0:5>6>"), Due.table(x, "T0:7+7;"),
        };
        Due.due("fault", faults[0], -100 - 44);
        Due.due("fault", faults[1], -100 - 14);
        Due.due("fault", faults[2], -100 - 14);
        Due.due("fault", faults[3], -100 - 7);
        Due.due("lines", x.told(0), 1);
        Due.due("trips", x.told(1), 1);
        Due.due("footpaths", x.told(2), 1);
        Due.due("foot", x.foot(0, 1), 9);
        Due.due("minute", x.minute(0, 0, 0), 10);
        Due.due("minute", x.minute(0, 0, 1), 15);
    }

    private static void lines() {
        TripRounds x = Due.with("L4:7>11>0;L2:3>4;T0:399+1+1;T0:400+1+1;T0:1300+1+1");
        int[][] due = {{4, 3, 3, 1}, {2, 2, 0, 0}};
        for (int l = 0; l < 2; l++) {
            for (int what = 0; what < 4; what++) Due.due("line", x.line(l, what), due[l][what]);
            Due.due("line", x.line(l, -1), NONE);
            Due.due("line", x.line(l, 4), NONE);
        }
        for (int bad : new int[] {LOW, -1, 2, 8, HIGH}) {
            Due.due("line", x.line(bad, 0), NONE);
            Due.due("stop", x.stop(bad, 0), NONE);
            Due.due("minute", x.minute(bad, 0, 0), NONE);
            Due.due("runs", x.runs(bad, 0), NONE);
        }
        for (int bad : new int[] {LOW, -1, 3, 6, HIGH}) {
            Due.due("stop", x.stop(0, bad), NONE);
            Due.due("minute", x.minute(0, bad, 0), NONE);
            Due.due("minute", x.minute(0, 0, bad), NONE);
            Due.due("runs", x.runs(0, bad), NONE);
        }
        Due.due("stop", x.stop(0, 0), 7);
        Due.due("stop", x.stop(0, 1), 11);
        Due.due("stop", x.stop(0, 2), 0);
        Due.due("stop", x.stop(1, 2), NONE);
        Due.due("minute", x.minute(0, 1, 2), 402);
        Due.due("minute", x.minute(1, 0, 0), NONE);
    }

    /** Whether a trip of a kind runs that begins at a minute, and still does when it is late. */
    private static void runsAt(int kind, int minute, int due) {
        TripRounds x = Due.with("L" + kind + ":0>1;T0:" + minute + "+1");
        String call = "kind " + kind + " at " + minute;
        Due.due(call, x.runs(0, 0), due);
        Due.due(call, x.line(0, 3), due);
        Due.due(call, x.told(3), due);
        x.delay(0, 0, 0, 61);
        Due.due(call + ", late", x.runs(0, 0), due);
        Due.due(call + ", late", x.earliest(0, 0, 1, 1), due == 1 ? minute + 62 : -5);
    }

    private static void kindsRun() {
        int[][] due = {
            // minute, then kinds 0 to 5
            {0, 1, 1, 1, 1, 0, 1}, {299, 1, 1, 1, 1, 0, 1}, {300, 1, 1, 0, 1, 0, 1},
            {301, 1, 1, 0, 0, 0, 0}, {359, 1, 1, 0, 0, 0, 0}, {360, 1, 1, 0, 1, 0, 1},
            {399, 1, 1, 0, 0, 0, 0}, {400, 1, 1, 0, 0, 1, 0}, {1140, 1, 1, 0, 1, 1, 1},
            {1199, 1, 1, 0, 0, 1, 0}, {1200, 1, 1, 1, 1, 1, 1}, {1299, 1, 1, 1, 1, 1, 1},
            {1300, 1, 0, 1, 1, 0, 1}, {1998, 1, 0, 1, 1, 0, 1},
        };
        for (int[] row : due) {
            for (int kind = 0; kind < 6; kind++) runsAt(kind, row[0], row[kind + 1]);
        }
    }

    private static void paths() {
        TripRounds x = new TripRounds();
        Due.due("walk", x.walk(3, 11, 60), -5);
        Due.due("foot", x.foot(11, 3), 60);
        Due.due("foot", x.foot(3, 11), 60);
        Due.due("walk", x.walk(11, 3, 1), 60);
        Due.due("told", x.told(2), 1);
        Due.due("walk", x.walk(3, 11, 61), BAD);
        Due.due("walk", x.walk(3, 11, -1), BAD);
        Due.due("foot", x.foot(3, 11), 1);
        Due.due("walk", x.walk(3, 11, 0), 1);
        Due.due("foot", x.foot(11, 3), -5);
        Due.due("walk", x.walk(3, 11, 0), -5);
        Due.due("told", x.told(2), 0);
        Due.due("walk", x.walk(3, 3, 5), NONE);
        Due.due("foot", x.foot(3, 3), NONE);
        for (int bad : new int[] {LOW, -1, 12, HIGH}) {
            Due.due("foot", x.foot(bad, 3), NONE);
            Due.due("foot", x.foot(3, bad), NONE);
            Due.due("walk", x.walk(bad, 3, 99), NONE);
            Due.due("walk", x.walk(3, bad, 5), NONE);
        }
    }

    private static void delays() {
        TripRounds x = Due.with("L0:0>1>2;T0:1000+100+899;T0:5+5+5");
        Due.due("delay", x.delay(0, 0, 1, 99), 1199);
        Due.due("delay", x.delay(0, 0, 2, 1), 2099);
        Due.due("delay", x.delay(0, 0, 0, 50), 1050);
        Due.due("minute", x.minute(0, 0, 0), 1050);
        Due.due("minute", x.minute(0, 0, 1), 1249);
        Due.due("minute", x.minute(0, 0, 2), 2149);
        Due.due("minute", x.minute(0, 1, 2), 15);
        Due.due("delay", x.delay(0, 0, 0, 0), BAD);
        Due.due("delay", x.delay(0, 0, 0, 100), BAD);
        for (int bad : new int[] {LOW, -1, 3, HIGH}) {
            Due.due("delay", x.delay(bad, 0, 0, 0), NONE);
            Due.due("delay", x.delay(0, bad, 0, 5), NONE);
            Due.due("delay", x.delay(0, 0, bad, 5), NONE);
            Due.due("delay", x.delay(0, 0, 0, bad == 3 ? 0 : bad), BAD);
        }
        for (int i = 0; i < 69; i++) x.delay(0, 0, 2, 99);
        Due.due("minute", x.minute(0, 0, 2), 8980);
        Due.due("delay", x.delay(0, 0, 0, 21), FULL);
        Due.due("minute", x.minute(0, 0, 0), 1050);
        Due.due("delay", x.delay(0, 0, 0, 20), 1070);
        Due.due("minute", x.minute(0, 0, 2), 9000);
        Due.due("delay", x.delay(0, 0, 2, 1), FULL);
        Due.due("delay", x.delay(0, 0, 2, 100), BAD);
    }

    private static void drops() {
        TripRounds x = Due.with("L0:0>1;L1:1>2;T0:5+5;T0:15+5;T1:9+9");
        x.delay(0, 1, 0, 50);
        Due.due("drop", x.drop(0), 1);
        Due.due("line", x.line(0, 2), 1);
        Due.due("minute", x.minute(0, 1, 0), NONE);
        Due.due("minute", x.minute(0, 0, 0), 5);
        Due.due("earliest", x.earliest(0, 6, 1, 1), -5);
        Due.due("table", Due.table(x, "T0:25+5"), 1);
        Due.due("minute", x.minute(0, 1, 1), 30);
        Due.due("drop", x.drop(0), 1);
        Due.due("drop", x.drop(0), 0);
        Due.due("drop", x.drop(0), STATE);
        Due.due("told", x.told(1), 1);
        for (int bad : new int[] {LOW, -1, 2, HIGH}) Due.due("drop", x.drop(bad), NONE);
    }

    private static void told() {
        TripRounds x = Due.with("L0:0>1;L1:1>2;T0:5+5;T1:1299+5;T1:1300+9;F9-10=5;F10-11=6");
        int[] due = {2, 3, 2, 2, 9, 0, 0, NONE};
        for (int what = 0; what < 8; what++) Due.due("told " + what, x.told(what), due[what]);
        Due.due("told", x.told(-1), NONE);
        Due.due("told", x.told(LOW), NONE);
        Due.feed(x, "abc");
        Due.due("told", x.told(5), 3);
        Due.due("spell", x.spell(0, 0, 2, 6), 17);
        Due.due("told", x.told(6), 17);
    }

    private static void image() {
        TripRounds x = new TripRounds();
        Due.due("undo", x.undo(), STATE);
        Due.due("image", x.image(), 0);
        Due.table(x, "L2:0>1;T0:290+5;F0-1=9;L0:5>6>7;T1:5+5+5");
        Due.due("undo", x.undo(), 0);
        Due.due("told", x.told(0), 0);
        Due.due("told", x.told(2), 0);
        Due.table(x, "L2:0>1;T0:290+5;F0-1=9;L0:5>6>7;T1:5+5+5;D0.0@0+20");
        Due.due("image", x.image(), 2);
        x.delay(1, 0, 1, 30);
        x.walk(0, 1, 0);
        x.walk(4, 5, 3);
        x.drop(0);
        Due.table(x, "T0:400+1;T1:6+1+1;L5:8>9");
        x.list(2, 5);
        x.set(2, 4, 77);
        x.spell(5, 0, 7, 1);
        Due.feed(x, "xy");
        for (int again = 0; again < 2; again++) {
            Due.due("undo", x.undo(), 2);
            Due.due("told", x.told(0), 2);
            Due.due("told", x.told(1), 2);
            Due.due("told", x.told(2), 1);
            Due.due("foot", x.foot(0, 1), 9);
            Due.due("runs", x.runs(0, 0), 1);
            Due.due("minute", x.minute(0, 0, 0), 310);
            Due.due("minute", x.minute(0, 0, 1), 315);
            Due.due("minute", x.minute(1, 0, 2), 15);
            Due.due("line", x.line(0, 0), 2);
            Due.due("line", x.line(1, 1), 3);
            Due.due("stop", x.stop(1, 2), 7);
            Due.due("told", x.told(5), 2);
            Due.due("paper", Due.paper(x), "L1.1:5>7");
            Due.due("get", x.get(2, 4), 77);
            x.delay(0, 0, 0, 3);
            x.walk(0, 1, 2);
            x.drop(1);
        }
    }
}
