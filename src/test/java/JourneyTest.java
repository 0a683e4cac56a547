/** Promises 13 to 23, 27 and 28: journeys, when to leave, what would be lost, the paper. */
public final class JourneyTest {
    private static final int NONE = -1, BAD = -2;
    private static final int LOW = Integer.MIN_VALUE, HIGH = Integer.MAX_VALUE;

    public static void main(String[] args) {
        earliest();
        walks();
        delayed();
        worth();
        legs();
        whichRide();
        whichWalk();
        fares();
        waiting();
        latest();
        profile();
        reached();
        worst();
        cut();
        paper();
        wrongNumbers();
        Due.end();
    }

    /** Two ways from 0 to 3: by 1 with a tram, by 2 with an express. */
    private static TripRounds net() {
        return Due.with("L0:0>1>2;L1:1>3;L3:2>3;T0:10+10+10;T0:40+10+10;T1:25+10;T2:60+5",
            "F2-4=7;F1-5=3");
    }

    private static void spelled(TripRounds x, int[] call, String due) {
        int bytes = x.spell(call[0], call[1], call[2], call[3]);
        Due.due("spell to " + call[2] + " by " + call[3], bytes, due.length());
        Due.due("paper", Due.paper(x), due);
    }

    private static void earliest() {
        TripRounds x = net();
        Due.due("earliest", x.earliest(0, 0, 3, 0), -5);
        Due.due("earliest", x.earliest(0, 0, 3, 1), -5);
        Due.due("earliest", x.earliest(0, 0, 3, 2), 35);
        Due.due("earliest", x.earliest(0, 0, 3, 6), 35);
        Due.due("earliest", x.earliest(0, 10, 3, 2), 35);
        Due.due("earliest", x.earliest(0, 11, 3, 2), 65);
        Due.due("earliest", x.earliest(0, 40, 3, 2), 65);
        Due.due("earliest", x.earliest(0, 41, 3, 6), -5);
        Due.due("earliest", x.earliest(0, 0, 4, 1), 37);
        Due.due("earliest", x.earliest(0, 0, 5, 1), 23);
        Due.due("earliest", x.earliest(0, 0, 5, 0), -5);
        Due.due("earliest", x.earliest(3, 0, 0, 6), -5);
        Due.due("earliest", x.earliest(2, 0, 1, 6), -5);
        Due.due("earliest", x.earliest(7, 1999, 7, 0), 1999);
        TripRounds six = Due.with("L0:0>1>2>3>4>5;T0:0+9+9+9+9+9;T0:1+9+9+9+9+8;L0:6>7");
        Due.due("earliest", six.earliest(0, 1, 5, 1), 45);
        Due.due("earliest", six.earliest(4, 0, 5, 1), 45);
    }

    private static void walks() {
        TripRounds x = Due.with("F0-1=5;F1-2=5;F2-3=5;L0:1>2;T0:20+20");
        Due.due("earliest", x.earliest(0, 10, 1, 0), 15);
        Due.due("earliest", x.earliest(0, 10, 2, 0), -5);
        Due.due("earliest", x.earliest(0, 10, 2, 1), 40);
        Due.due("earliest", x.earliest(0, 15, 2, 1), 40);
        Due.due("earliest", x.earliest(0, 16, 2, 1), -5);
        Due.due("earliest", x.earliest(0, 15, 3, 1), 45);
        Due.due("earliest", x.earliest(1, 15, 3, 1), 45);
        Due.due("earliest", x.earliest(1, 15, 2, 1), 20);
        Due.due("earliest", x.earliest(1, 15, 3, 0), -5);
        Due.due("earliest", x.earliest(1, 1999, 0, 6), 2004);
        // A ride to a stop that a walk reaches sooner: only from the ride's end one may walk on.
        TripRounds y = Due.with("F0-1=5;F1-2=5;L0:0>1;T0:0+30;L0:1>3;T1:5+1");
        Due.due("earliest", y.earliest(0, 0, 1, 1), 5);
        Due.due("earliest", y.earliest(0, 0, 2, 1), 35);
        Due.due("earliest", y.earliest(0, 0, 3, 1), 6);
        spelled(y, new int[] {0, 0, 2, 1}, "L0.0:0>1 W:1>2");
        spelled(y, new int[] {0, 0, 2, 6}, "L0.0:0>1 W:1>2");
        spelled(y, new int[] {0, 0, 3, 1}, "W:0>1 L1.0:1>3");
    }

    private static void delayed() {
        TripRounds x = Due.with("L0:0>1;T0:1990+9;L0:1>2;T1:1998+1");
        Due.due("earliest", x.earliest(0, 0, 2, 2), -5);
        for (int i = 0; i < 5; i++) x.delay(1, 0, 0, 99);
        Due.due("earliest", x.earliest(0, 1990, 2, 2), 2494);
        x.delay(0, 0, 1, 99);
        Due.due("earliest", x.earliest(0, 1990, 1, 1), 2098);
        x.delay(0, 0, 0, 99);
        Due.due("earliest", x.earliest(0, 1999, 1, 1), 2197);
        Due.due("earliest", x.earliest(0, 1999, 2, 2), 2494);
    }

    private static void worth() {
        TripRounds x = net();
        Due.due("worth", x.worth(0, 0, 3), 4);
        Due.due("worth", x.worth(0, 0, 2), 2);
        Due.due("worth", x.worth(0, 0, 0), 1);
        Due.due("worth", x.worth(0, 41, 3), 0);
        TripRounds y = Due.with("F0-3=60;L0:0>3;T0:0+40;L0:0>1;L0:1>2;L0:2>3;T1:1+1;T2:2+1;T3:3+1");
        Due.due("worth", y.worth(0, 0, 3), 1 + 2 + 8);
        Due.due("worth", y.worth(0, 1, 3), 1 + 8);
        Due.due("worth", y.worth(0, 2, 3), 1);
        Due.due("earliest", y.earliest(0, 0, 3, 0), 60);
        Due.due("earliest", y.earliest(0, 0, 3, 2), 40);
        Due.due("earliest", y.earliest(0, 0, 3, 3), 4);
        // A chain of six rides.
        TripRounds z = Due.with("L0:0>1;L0:1>2;L0:2>3;L0:3>4;L0:4>5;L0:5>6;L0:6>7",
            "T0:0+1;T1:1+1;T2:2+1;T3:3+1;T4:4+1;T5:5+1;T6:6+1");
        Due.due("worth", z.worth(0, 0, 6), 64);
        Due.due("worth", z.worth(0, 0, 7), 0);
        Due.due("earliest", z.earliest(0, 0, 6, 6), 6);
        Due.due("earliest", z.earliest(0, 0, 6, 5), -5);
        Due.due("earliest", z.earliest(0, 0, 7, 6), -5);
        spelled(z, new int[] {0, 0, 6, 6}, "L0.0:0>1 L1.0:1>2 L2.0:2>3 L3.0:3>4 L4.0:4>5 L5.0:5>6");
    }

    private static void legIs(TripRounds x, int[] call, int i, int... due) {
        for (int what = 0; what < 6; what++) {
            int got = x.leg(call[0], call[1], call[2], call[3], i, what);
            Due.due("leg " + i + " what " + what, got, due[what]);
        }
    }

    private static void legs() {
        TripRounds x = net();
        Due.due("legs", x.legs(0, 0, 3, 2), 2);
        legIs(x, new int[] {0, 0, 3, 2}, 0, 0, 0, 0, 1, 10, 20);
        legIs(x, new int[] {0, 0, 3, 2}, 1, 1, 0, 1, 3, 25, 35);
        legIs(x, new int[] {0, 0, 3, 2}, 2, NONE, NONE, NONE, NONE, NONE, NONE);
        legIs(x, new int[] {0, 0, 3, 1}, 0, NONE, NONE, NONE, NONE, NONE, NONE);
        legIs(x, new int[] {0, 11, 3, 2}, 0, 0, 1, 0, 2, 40, 60);
        legIs(x, new int[] {0, 0, 4, 1}, 0, 0, 0, 0, 2, 10, 30);
        legIs(x, new int[] {0, 0, 4, 1}, 1, -5, -5, 2, 4, 30, 37);
        legIs(x, new int[] {5, 9, 1, 0}, 0, -5, -5, 5, 1, 9, 12);
        Due.due("legs", x.legs(0, 0, 3, 1), -5);
        Due.due("legs", x.legs(0, 0, 0, 6), 0);
        Due.due("leg", x.leg(0, 0, 0, 6, 0, 0), NONE);
        Due.due("leg", x.leg(0, 0, 3, 2, -1, 0), NONE);
        Due.due("leg", x.leg(0, 0, 3, 2, LOW, 0), NONE);
        Due.due("leg", x.leg(0, 0, 3, 2, HIGH, 0), NONE);
        Due.due("leg", x.leg(0, 0, 3, 2, 0, -1), NONE);
        Due.due("leg", x.leg(0, 0, 3, 2, 0, 6), NONE);
        Due.due("leg", x.leg(0, -1, 3, 2, -1, 0), NONE);
        Due.due("leg", x.leg(0, -1, 3, 2, 0, 6), NONE);
        Due.due("leg", x.leg(0, -1, 3, 2, 0, 0), BAD);
        mostLegs();
    }

    /** Six rides and a walk ahead of, between and behind them; one comes to 1 and 3 again to walk on. */
    private static void mostLegs() {
        TripRounds x = Due.with("L0:1>2;L0:3>4;L0:5>1;L0:6>7;L0:8>3;L0:9>10",
            "F0-1=1;F2-3=1;F4-5=1;F1-6=1;F7-8=1;F3-9=1;F10-11=1",
            "T0:10+5;T1:20+5;T2:30+5;T3:40+5;T4:50+5;T5:60+5");
        Due.due("earliest", x.earliest(0, 2, 11, 6), 66);
        Due.due("legs", x.legs(0, 2, 11, 6), 13);
        Due.due("legs", x.legs(0, 2, 11, 5), -5);
        Due.due("waiting", x.waiting(0, 2, 11, 6), 64 - 6 * 5 - 7);
        Due.due("fare", x.fare(0, 2, 11, 6), 6 * 3);
        legIs(x, new int[] {0, 2, 11, 6}, 0, -5, -5, 0, 1, 2, 3);
        legIs(x, new int[] {0, 2, 11, 6}, 6, -5, -5, 1, 6, 35, 36);
        legIs(x, new int[] {0, 2, 11, 6}, 11, 5, 0, 9, 10, 60, 65);
        legIs(x, new int[] {0, 2, 11, 6}, 12, -5, -5, 10, 11, 65, 66);
        legIs(x, new int[] {0, 2, 11, 6}, 13, NONE, NONE, NONE, NONE, NONE, NONE);
        spelled(x, new int[] {0, 2, 11, 6}, "W:0>1 L0.0:1>2 W:2>3 L1.0:3>4 W:4>5 L2.0:5>1"
            + " W:1>6 L3.0:6>7 W:7>8 L4.0:8>3 W:3>9 L5.0:9>10 W:10>11");
    }

    private static void whichRide() {
        // Several rides that end at the same minute: least line, least trip, latest stop.
        TripRounds x = Due.with("L0:4>5;L0:0>1>2;L0:0>2;T1:0+10+10;T1:5+5+10;T2:5+15");
        spelled(x, new int[] {0, 0, 2, 1}, "L1.0:0>2");
        spelled(x, new int[] {0, 1, 2, 1}, "L1.1:0>2");
        spelled(x, new int[] {0, 0, 2, 2}, "L1.0:0>1 L1.0:1>2");
        spelled(x, new int[] {0, 1, 2, 2}, "L1.1:0>1 L1.0:1>2");
    }

    private static void whichWalk() {
        TripRounds x = Due.with("L0:0>4;T0:0+10;F4-5=5;L0:0>3;T1:0+12;F3-5=3;L0:6>5;T2:1+14");
        spelled(x, new int[] {0, 0, 5, 1}, "L1.0:0>3 W:3>5");
        spelled(x, new int[] {6, 0, 5, 1}, "L2.0:6>5");
        x.walk(0, 5, 15);
        spelled(x, new int[] {0, 0, 5, 1}, "W:0>5");
        spelled(x, new int[] {0, 0, 5, 0}, "W:0>5");
        // A ride is ahead of a walk that is there at the same minute.
        Due.table(x, "L0:0>5;T3:0+15");
        spelled(x, new int[] {0, 0, 5, 1}, "L3.0:0>5");
        spelled(x, new int[] {0, 0, 5, 0}, "W:0>5");
        // From a stop beyond the others one walks only if no lesser stop will do.
        TripRounds y = Due.with("L0:9>4;T0:0+10;F4-5=5;F9-5=15");
        spelled(y, new int[] {9, 0, 5, 1}, "L0.0:9>4 W:4>5");
        spelled(y, new int[] {9, 0, 5, 0}, "W:9>5");
        // The ride ahead of a walk: the latest of its stops, then the journey there by one less.
        TripRounds z = Due.with("L0:0>1>2;T0:5+5+5;F0-1=7;F2-3=1");
        spelled(z, new int[] {0, 2, 3, 1}, "W:0>1 L0.0:1>2 W:2>3");
        spelled(z, new int[] {0, 4, 3, 1}, "L0.0:0>2 W:2>3");
        spelled(z, new int[] {0, 4, 3, 2}, "L0.0:0>1 L0.0:1>2 W:2>3");
    }

    private static int fareOf(int kind, int more) {
        TripRounds x = Due.with("L" + kind + ":0>1>2>3>4>5;T0:1200+1+1+1+1+1");
        return x.fare(0, 0, more, 1);
    }

    private static void fares() {
        for (int n = 1; n < 6; n++) {
            int[] due = {n + 2, n + 3, n + 2, 2 * (n + 2), n + 8, 2 * (n + 2) - 3};
            for (int kind = 0; kind < 6; kind++) Due.due("fare of kind " + kind, fareOf(kind, n), due[kind]);
        }
        TripRounds x = net();
        Due.due("fare", x.fare(0, 0, 3, 2), 3 + 4);
        Due.due("fare", x.fare(0, 11, 3, 2), 4 + 6);
        Due.due("fare", x.fare(0, 0, 4, 1), 4);
        Due.due("fare", x.fare(1, 0, 4, 1), 3);
        Due.due("fare", x.fare(1, 0, 5, 0), 0);
        Due.due("fare", x.fare(1, 0, 1, 0), 0);
        Due.due("fare", x.fare(0, 0, 3, 1), -5);
    }

    private static void waiting() {
        TripRounds x = net();
        Due.due("waiting", x.waiting(0, 0, 3, 2), 15);
        Due.due("waiting", x.waiting(0, 10, 3, 2), 5);
        Due.due("waiting", x.waiting(0, 0, 4, 1), 10);
        Due.due("waiting", x.waiting(1, 50, 5, 3), 0);
        Due.due("waiting", x.waiting(1, 50, 1, 3), 0);
        Due.due("waiting", x.waiting(0, 0, 3, 1), -5);
    }

    private static void latest() {
        TripRounds x = net();
        Due.due("latest", x.latest(0, 3, 35, 2), 10);
        Due.due("latest", x.latest(0, 3, 34, 6), -5);
        Due.due("latest", x.latest(0, 3, 64, 6), 10);
        Due.due("latest", x.latest(0, 3, 65, 2), 40);
        Due.due("latest", x.latest(0, 3, 1999, 6), 40);
        Due.due("latest", x.latest(0, 3, 1999, 1), -5);
        Due.due("latest", x.latest(2, 4, 1999, 0), 1992);
        Due.due("latest", x.latest(2, 4, 7, 0), 0);
        Due.due("latest", x.latest(2, 4, 6, 0), -5);
        Due.due("latest", x.latest(8, 8, 1999, 0), 1999);
        Due.due("latest", x.latest(8, 8, 0, 0), 0);
    }

    private static void profile() {
        TripRounds x = net();
        Due.due("profile", x.profile(0, 3, 2, 0, 99, -1), 2);
        Due.due("profile", x.profile(0, 3, 2, 0, 99, 0), 10);
        Due.due("profile", x.profile(0, 3, 2, 0, 99, 1), 40);
        Due.due("profile", x.profile(0, 3, 2, 0, 99, 2), -5);
        Due.due("profile", x.profile(0, 3, 2, 0, 99, HIGH), -5);
        Due.due("profile", x.profile(0, 3, 2, 10, 10, 0), 10);
        Due.due("profile", x.profile(0, 3, 2, 11, 39, -1), 0);
        Due.due("profile", x.profile(0, 3, 2, 11, 40, 0), 40);
        Due.due("profile", x.profile(0, 3, 1, 0, 99, -1), 0);
        Due.due("profile", x.profile(2, 4, 0, 1900, 1999, -1), 100);
        Due.due("profile", x.profile(2, 4, 0, 1900, 1999, 99), 1999);
        Due.due("profile", x.profile(5, 5, 0, 1999, 1999, 0), 1999);
        Due.due("profile", x.profile(0, 3, 2, 0, 100, -1), BAD);
        Due.due("profile", x.profile(0, 3, 2, 5, 4, -1), BAD);
        Due.due("profile", x.profile(0, 3, 2, -1, 4, -1), BAD);
        Due.due("profile", x.profile(0, 3, 2, 1999, 2000, -1), BAD);
        Due.due("profile", x.profile(0, 3, 2, LOW, HIGH, -1), BAD);
        Due.due("profile", x.profile(0, 3, 7, 0, 9, -1), BAD);
        Due.due("profile", x.profile(0, 3, 7, 0, 9, -2), NONE);
        Due.due("profile", x.profile(0, 12, 7, 0, 9, 0), NONE);
        Due.due("profile", x.profile(-1, 3, 7, 0, 9, 0), NONE);
        // Beyond the last minute to leave there may be a trip that is late.
        TripRounds y = Due.with("L0:0>1;T0:1990+5");
        y.delay(0, 0, 0, 9);
        Due.due("profile", y.profile(0, 1, 1, 1990, 1999, -1), 1);
        Due.due("profile", y.profile(0, 1, 1, 1990, 1999, 0), 1999);
        y.delay(0, 0, 0, 1);
        Due.due("profile", y.profile(0, 1, 1, 1990, 1999, -1), 0);
    }

    private static void reached() {
        TripRounds x = net();
        Due.due("reached", x.reached(0, 0, 30, 1), 1 + 2 + 4 + 32);
        Due.due("reached", x.reached(0, 0, 29, 1), 1 + 2 + 32);
        Due.due("reached", x.reached(0, 0, 30, 0), 1);
        Due.due("reached", x.reached(0, 0, 1999, 6), 63);
        Due.due("reached", x.reached(11, 5, 5, 6), 2048);
        Due.due("reached", x.reached(11, 5, 4, 6), 0);
        Due.due("reached", x.reached(12, 5000, 5, 6), NONE);
        Due.due("reached", x.reached(-1, 5, 5, 6), NONE);
        Due.due("reached", x.reached(0, 2000, 5, 6), BAD);
        Due.due("reached", x.reached(0, 5, 2000, 6), BAD);
        Due.due("reached", x.reached(0, 5, -1, 6), BAD);
        Due.due("reached", x.reached(0, 5, 5, 7), BAD);
    }

    private static void loss(String call, int got, int due) {
        Due.due(call, got, due);
    }

    private static void worst() {
        TripRounds x = net();
        loss("worst", x.worst(0, 0, 3, 2, 0), 0);
        loss("worst", x.worst(0, 0, 3, 2, 1), 30);
        loss("worst", x.worst(0, 11, 3, 2, 0), 1);
        loss("worst", x.worst(0, 11, 3, 2, 1), 10000 - 65);
        loss("worst", x.worst(1, 0, 3, 2, 0), 10);
        loss("worst", x.worst(1, 0, 3, 2, 1), 30);
        loss("worst", x.worst(0, 0, 3, 1, 0), -5);
        loss("worst", x.worst(0, 0, 3, 1, 1), -5);
        loss("worst", x.worst(2, 0, 4, 6, 1), -5);
        loss("worst", x.worst(4, 0, 4, 6, 0), -5);
        loss("worst", x.worst(0, 0, 3, 2, 2), NONE);
        loss("worst", x.worst(0, 0, 3, 2, -1), NONE);
        loss("worst", x.worst(0, -1, 3, 2, 2), NONE);
        Due.due("earliest", x.earliest(0, 0, 3, 2), 35);
        // Two trips alike: without either nothing is later.
        TripRounds y = Due.with("L0:0>1;L0:0>1;T0:5+5;T1:5+5");
        loss("worst", y.worst(0, 0, 1, 6, 0), -5);
        // The worst is not the first: a later line's last trip.
        TripRounds z = Due.with("L0:0>1;L0:1>2;T0:5+5;T0:6+5;T1:9+1;T1:11+1;T1:10+2;T1:70+1");
        loss("worst", z.worst(0, 0, 2, 2, 0), -5);
        loss("worst", z.worst(0, 6, 2, 2, 0), 1);
        loss("worst", z.worst(1, 13, 2, 2, 0), 13);
        loss("worst", z.worst(1, 13, 2, 2, 1), 10000 - 71);
        // One minute later is later; what is lost for the asking is there again behind it.
        TripRounds o = Due.with("L0:0>1;T0:5+6;T0:5+5");
        loss("worst", o.worst(0, 0, 1, 6, 0), 1);
        loss("worst", o.worst(0, 0, 1, 6, 1), 1);
        Due.due("earliest", o.earliest(0, 0, 1, 6), 10);
        // What doesn't run is no loss.
        TripRounds n = Due.with("L2:0>1;T0:500+5");
        loss("worst", n.worst(0, 0, 1, 6, 0), -5);
    }

    private static void cut() {
        TripRounds x = net();
        loss("cut", x.cut(0, 0, 3, 2, 0), 1);
        loss("cut", x.cut(0, 0, 3, 2, 1), 30);
        loss("cut", x.cut(0, 11, 3, 2, 0), 2);
        loss("cut", x.cut(0, 11, 3, 2, 1), 10000 - 65);
        loss("cut", x.cut(0, 0, 2, 6, 0), -5);
        loss("cut", x.cut(0, 0, 2, 6, 1), -5);
        loss("cut", x.cut(0, 0, 3, 1, 0), -5);
        loss("cut", x.cut(0, 0, 5, 1, 0), 1);
        loss("cut", x.cut(3, 0, 3, 2, 0), NONE);
        loss("cut", x.cut(0, 0, 3, 2, 2), NONE);
        loss("cut", x.cut(0, 0, 3, 2, -1), NONE);
        loss("cut", x.cut(3, -1, 3, 2, 0), NONE);
        Due.due("earliest", x.earliest(0, 0, 3, 2), 35);
        // Of several the least; walks to it and from it are gone, too.
        TripRounds y = Due.with("F0-9=3;L0:9>7;T0:3+3;F7-8=3;L0:8>1;T1:9+3");
        loss("cut", y.cut(0, 0, 1, 2, 0), 7);
        loss("cut", y.cut(0, 0, 1, 2, 1), 10000 - 12);
        loss("cut", y.cut(0, 0, 8, 2, 0), 7);
        loss("cut", y.cut(0, 0, 7, 2, 0), 9);
        loss("cut", y.cut(9, 0, 8, 2, 0), 7);
        TripRounds z = Due.with("L0:3>0;L0:0>1;L0:3>1;T0:0+5;T1:5+5;T2:0+11");
        loss("cut", z.cut(3, 0, 1, 2, 0), 0);
        loss("cut", z.cut(3, 0, 1, 2, 1), 1);
        loss("cut", z.cut(3, 0, 1, 1, 1), -5);
        Due.due("earliest", z.earliest(3, 0, 1, 2), 10);
        TripRounds e = Due.with("L0:3>11;L0:11>1;T0:0+5;T1:5+5");
        loss("cut", e.cut(3, 0, 1, 2, 0), 11);
        Due.due("earliest", e.earliest(3, 0, 1, 2), 10);
    }

    private static void paper() {
        TripRounds x = net();
        Due.due("paper", x.paper(0), NONE);
        spelled(x, new int[] {0, 0, 3, 2}, "L0.0:0>1 L1.0:1>3");
        Due.due("told", x.told(6), 17);
        Due.due("paper", x.paper(17), NONE);
        Due.due("paper", x.paper(-1), NONE);
        Due.due("paper", x.paper(LOW), NONE);
        Due.due("paper", x.paper(HIGH), NONE);
        Due.due("paper", x.paper(8), ' ');
        Due.due("spell", x.spell(0, 0, 3, 1), -5);
        Due.due("spell", x.spell(0, 0, 3, 9), BAD);
        Due.due("spell", x.spell(0, 0, 13, 2), NONE);
        Due.due("paper", Due.paper(x), "L0.0:0>1 L1.0:1>3");
        x.legs(0, 0, 4, 1);
        x.leg(0, 0, 4, 1, 0, 0);
        x.fare(0, 0, 4, 1);
        x.waiting(0, 0, 4, 1);
        x.latest(0, 4, 99, 1);
        Due.due("paper", Due.paper(x), "L0.0:0>1 L1.0:1>3");
        spelled(x, new int[] {0, 0, 4, 1}, "L0.0:0>2 W:2>4");
        spelled(x, new int[] {0, 0, 0, 1}, "");
        Due.due("told", x.told(6), 0);
        TripRounds y = Due.with("L0:4>5;L0:10>0;L0:11>10;T2:1+1;T1:0+1;T1:2+1;F0-11=10");
        spelled(y, new int[] {11, 0, 0, 2}, "L2.0:11>10 L1.1:10>0");
        spelled(y, new int[] {11, 2, 0, 2}, "W:11>0");
    }

    private static int ask(TripRounds x, int call, int from, int minute, int to, int rides) {
        switch (call) {
            case 0: return x.earliest(from, minute, to, rides);
            case 1: return x.legs(from, minute, to, rides);
            case 2: return x.leg(from, minute, to, rides, 0, 0);
            case 3: return x.fare(from, minute, to, rides);
            case 4: return x.waiting(from, minute, to, rides);
            case 5: return x.latest(from, to, minute, rides);
            case 6: return x.profile(from, to, rides, minute, 1999, 0);
            case 7: return x.worst(from, minute, to, rides, 0);
            case 8: return x.cut(from, minute, to, rides, 0);
            case 9: return x.spell(from, minute, to, rides);
            default: return x.worth(from, minute, to);
        }
    }

    private static void wrongNumbers() {
        TripRounds x = net();
        for (int call = 0; call < 11; call++) {
            String name = "call " + call;
            for (int bad : new int[] {LOW, -1, 12, HIGH}) {
                Due.due(name, ask(x, call, bad, 0, 3, 2), NONE);
                Due.due(name, ask(x, call, 0, 0, bad, 2), NONE);
                Due.due(name, ask(x, call, bad, -1, bad, 7), NONE);
                Due.due(name, ask(x, call, 0, -1, bad, 2), NONE);
            }
            for (int bad : new int[] {LOW, -1, 2000, HIGH}) {
                Due.due(name, ask(x, call, 0, bad, 3, 2), BAD);
            }
            for (int bad : new int[] {LOW, -1, 7, HIGH}) {
                if (call < 10) Due.due(name, ask(x, call, 0, 1990, 3, bad), BAD);
            }
        }
        Due.due("paper", x.told(6), 0);
    }
}
