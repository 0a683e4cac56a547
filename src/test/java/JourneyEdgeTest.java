/** The edges of journeys: EARLIEST, THE JOURNEY and what is told of it (Terms 1; promises 13, 15 to 18). */
public final class JourneyEdgeTest {
    private static final int NONE = -1;

    public static void main(String[] args) {
        stopItself();
        never();
        inTime();
        onlyForward();
        walkTakesItsMinutes();
        noTwoWalks();
        walkOnlyBehindARide();
        soManyRidesOrFewer();
        sixRides();
        leavingAt1999();
        rideNotWalk();
        leastLine();
        leastTrip();
        whatDoesNotRun();
        latestOfItsStops();
        beginningByOneLess();
        walkFromLeastStop();
        walkFromWhereOneSetOut();
        setOutStopTooSlow();
        walkNeedsAPath();
        walkBehindARideThatIsNotEarliest();
        rideAheadOfAWalk();
        walkAheadOfARide();
        legsNoneAndMost();
        mostLegsOfAll();
        legMinutes();
        legOfLastStops();
        faresOfAll();
        waitingOfAll();
        Due.end();
    }

    private static void spelled(TripRounds x, int from, int at, int to, int rides, String due) {
        String call = "journey from " + from + " at " + at + " to " + to + " by " + rides;
        Due.due(call, x.spell(from, at, to, rides), due.length());
        Due.due(call, Due.paper(x), due);
        int legs = due.isEmpty() ? 0 : due.split(" ").length;
        Due.due(call + ": legs", x.legs(from, at, to, rides), legs);
        Due.due(call + ": no leg", x.leg(from, at, to, rides, legs, 2), NONE);
    }

    /** "of the STOP itself the MINUTE at which one is there", "to the STOP itself: no LEGS" */
    private static void stopItself() {
        TripRounds x = Due.with("L0:0>1;L0:1>0;T0:5+1;T1:6+1;F0-1=1");
        for (int at : new int[] {0, 5, 1998, 1999}) {
            for (int rides = 0; rides <= 6; rides++) {
                Due.due("earliest", x.earliest(0, at, 0, rides), at);
                Due.due("fare", x.fare(0, at, 0, rides), 0);
                Due.due("waiting", x.waiting(0, at, 0, rides), 0);
                spelled(x, 0, at, 0, rides, "");
            }
        }
    }

    /** "never, if there is none": then nothing else is there either. */
    private static void never() {
        TripRounds x = Due.with("L0:0>1;T0:5+1;F2-3=1");
        int[][] calls = {{0, 0, 1, 0}, {0, 6, 1, 6}, {1, 0, 0, 6}, {0, 0, 2, 6}, {2, 0, 1, 6}, {11, 1999, 10, 6}};
        for (int[] c : calls) {
            Due.due("earliest", x.earliest(c[0], c[1], c[2], c[3]), -5);
            Due.due("legs", x.legs(c[0], c[1], c[2], c[3]), -5);
            Due.due("fare", x.fare(c[0], c[1], c[2], c[3]), -5);
            Due.due("waiting", x.waiting(c[0], c[1], c[2], c[3]), -5);
            Due.due("spell", x.spell(c[0], c[1], c[2], c[3]), -5);
            Due.due("leg", x.leg(c[0], c[1], c[2], c[3], 0, 2), NONE);
        }
    }

    /** "one is there at the TRIP's MINUTE or ahead of it" */
    private static void inTime() {
        TripRounds x = Due.with("L0:0>1;L0:1>2;T0:10+10;T1:20+5;T1:19+5;T1:21+5");
        Due.due("ahead of it", x.earliest(0, 9, 1, 1), 20);
        Due.due("at it", x.earliest(0, 10, 1, 1), 20);
        Due.due("behind it", x.earliest(0, 11, 1, 1), -5);
        Due.due("changed at it", x.earliest(0, 0, 2, 2), 25);
        spelled(x, 0, 0, 2, 2, "L0.0:0>1 L1.0:1>2");
        x.delay(0, 0, 1, 1);
        spelled(x, 0, 0, 2, 2, "L0.0:0>1 L1.2:1>2");
        x.delay(0, 0, 1, 1);
        Due.due("behind all", x.earliest(0, 0, 2, 2), -5);
    }

    /** "from one of its STOPS to a later one" */
    private static void onlyForward() {
        TripRounds x = Due.with("L0:0>1>2>3>4>5;T0:0+1+1+1+1+1");
        for (int from = 0; from < 6; from++) {
            for (int to = 0; to < 6; to++) {
                int due = from == to ? 0 : from < to ? to : -5;
                Due.due("from " + from + " to " + to, x.earliest(from, 0, to, 6), due);
            }
        }
        spelled(x, 0, 0, 5, 1, "L0.0:0>5");
        spelled(x, 4, 4, 5, 1, "L0.0:4>5");
    }

    /** "a WALK takes as long as its FOOTPATH" */
    private static void walkTakesItsMinutes() {
        TripRounds x = Due.with("F0-1=1;F1-2=60;L0:1>3;T0:60+5");
        Due.due("one minute", x.earliest(0, 9, 1, 0), 10);
        Due.due("sixty", x.earliest(2, 9, 1, 0), 69);
        Due.due("in time", x.earliest(2, 0, 3, 1), 65);
        Due.due("too late", x.earliest(2, 1, 3, 1), -5);
        Due.due("in time", x.earliest(0, 59, 3, 1), 65);
        Due.due("too late", x.earliest(0, 60, 3, 1), -5);
    }

    /** "no two WALKS one behind the other" */
    private static void noTwoWalks() {
        TripRounds x = Due.with("F0-1=1;F1-2=1;F2-3=1;F0-2=9");
        Due.due("one walk", x.earliest(0, 0, 2, 6), 9);
        Due.due("two walks", x.earliest(0, 0, 3, 6), -5);
        Due.due("two walks", x.earliest(1, 0, 3, 6), -5);
        spelled(x, 0, 0, 2, 6, "W:0>2");
        Due.table(x, "L0:4>1;T0:0+1");
        Due.due("one behind the ride", x.earliest(4, 0, 2, 1), 2);
        Due.due("two behind the ride", x.earliest(4, 0, 3, 6), -5);
        Due.table(x, "L0:2>5;T1:2+1");
        Due.due("one between rides", x.earliest(4, 0, 5, 2), 3);
        spelled(x, 4, 0, 5, 2, "L0.0:4>1 W:1>2 L1.0:2>5");
        Due.due("two ahead of the ride", x.earliest(3, 0, 5, 6), 3);
        spelled(x, 3, 0, 5, 6, "W:3>2 L1.0:2>5");
        Due.due("two ahead of the ride", x.earliest(0, 0, 5, 6), -5);
    }

    /** From a stop to which one has walked one doesn't walk on, however early one is there. */
    private static void walkOnlyBehindARide() {
        TripRounds x = Due.with("F0-1=5;F1-2=5;L0:0>1;T0:0+50");
        Due.due("there", x.earliest(0, 0, 1, 1), 5);
        Due.due("on", x.earliest(0, 0, 2, 0), -5);
        Due.due("on", x.earliest(0, 0, 2, 1), 55);
        spelled(x, 0, 0, 2, 1, "L0.0:0>1 W:1>2");
        Due.due("too late for it", x.earliest(0, 1, 2, 6), -5);
    }

    /** "with that many RIDES or fewer" */
    private static void soManyRidesOrFewer() {
        TripRounds x = Due.with("L0:0>3;L0:0>1;L0:1>3;T0:0+30;T1:0+9;T2:9+9");
        int[] due = {-5, 30, 18, 18, 18, 18, 18};
        for (int rides = 0; rides <= 6; rides++) Due.due("by " + rides, x.earliest(0, 0, 3, rides), due[rides]);
        spelled(x, 0, 0, 3, 1, "L0.0:0>3");
        for (int rides = 2; rides <= 6; rides++) spelled(x, 0, 0, 3, rides, "L1.0:0>1 L2.0:1>3");
        x.delay(2, 0, 1, 12);
        for (int rides = 1; rides <= 6; rides++) spelled(x, 0, 0, 3, rides, "L0.0:0>3");
        x.walk(0, 3, 29);
        for (int rides = 0; rides <= 6; rides++) spelled(x, 0, 0, 3, rides, "W:0>3");
    }

    /** "One RIDES 6 times at most." */
    private static void sixRides() {
        TripRounds x = Due.with("L0:0>1;L0:1>2;L0:2>3;L0:3>4;L0:4>5;L0:5>6;L0:6>7;F6-8=9",
            "T0:0+1;T1:1+1;T2:2+1;T3:3+1;T4:4+1;T5:5+1;T6:6+1");
        for (int to = 1; to <= 6; to++) {
            Due.due("by so many", x.earliest(0, 0, to, to), to);
            Due.due("by one less", x.earliest(0, 0, to, to - 1), -5);
            Due.due("legs", x.legs(0, 0, to, to), to);
        }
        Due.due("a seventh", x.earliest(0, 0, 7, 6), -5);
        Due.due("a seventh", x.legs(0, 0, 7, 6), -5);
        Due.due("from the next", x.earliest(1, 0, 7, 6), 7);
        Due.due("a walk behind the sixth", x.earliest(0, 0, 8, 6), 15);
        Due.due("a walk behind the fifth", x.earliest(0, 0, 8, 5), -5);
    }

    private static void leavingAt1999() {
        TripRounds x = Due.with("L0:0>1;T0:1998+1;F0-2=60;F1-3=60");
        Due.due("gone", x.earliest(0, 1999, 1, 1), -5);
        Due.due("walk", x.earliest(0, 1999, 2, 0), 2059);
        x.delay(0, 0, 0, 1);
        Due.due("at it", x.earliest(0, 1999, 1, 1), 2000);
        Due.due("and on", x.earliest(0, 1999, 3, 1), 2060);
        spelled(x, 0, 1999, 3, 1, "L0.0:0>1 W:1>3");
    }

    /** A ride that ends at EARLIEST is the last leg, though a walk ends then, too. */
    private static void rideNotWalk() {
        TripRounds x = Due.with("L0:9>0;L0:1>5;T1:4+6;F0-5=10;F9-5=5;T0:0+5");
        x.walk(1, 0, 4);
        Due.due("earliest", x.earliest(0, 0, 5, 1), 10);
        spelled(x, 0, 0, 5, 0, "W:0>5");
        spelled(x, 0, 0, 5, 1, "W:0>1 L1.0:1>5");
        x.delay(1, 0, 1, 1);
        spelled(x, 0, 0, 5, 1, "W:0>5");
    }

    private static void leastLine() {
        TripRounds x = Due.with("L0:6>7;L3:1>5;L0:0>5;L0:1>5;T3:8+12;T2:0+20;T1:180+5;F0-1=8");
        spelled(x, 0, 0, 5, 1, "L2.0:0>5");
        Due.table(x, "T1:9+11");
        spelled(x, 0, 0, 5, 1, "W:0>1 L1.1:1>5");
    }

    private static void leastTrip() {
        TripRounds x = Due.with("L0:0>5;T0:8+13;T0:9+11;T0:0+20;T0:10+10");
        spelled(x, 0, 0, 5, 1, "L0.1:0>5");
        spelled(x, 0, 9, 5, 1, "L0.1:0>5");
        spelled(x, 0, 10, 5, 1, "L0.3:0>5");
        x.delay(0, 1, 1, 1);
        spelled(x, 0, 0, 5, 1, "L0.2:0>5");
        spelled(x, 0, 1, 5, 1, "L0.3:0>5");
    }

    /** "What doesn't RUN, isn't ridden": neither as a last RIDE, nor ahead of a WALK, though it ends just then. */
    private static void whatDoesNotRun() {
        int[] kinds = {1, 2, 3, 4, 5};
        int[] begins = {1301, 301, 301, 399, 301};
        for (int k = 0; k < kinds.length; k++) {
            String net = "L" + kinds[k] + ":0>1;L0:0>1;F1-2=3;T0:" + begins[k] + "+5";
            TripRounds x = Due.with(net);
            Due.due("runs", x.runs(0, 0), 0);
            Due.due("earliest", x.earliest(0, 0, 1, 6), -5);
            Due.due("earliest", x.earliest(0, 0, 2, 6), -5);
            Due.table(x, "T1:" + begins[k] + "+5");
            spelled(x, 0, 0, 1, 1, "L1.0:0>1");
            spelled(x, 0, 0, 2, 1, "L1.0:0>1 W:1>2");
            Due.due("fare", x.fare(0, 0, 2, 1), 3);
            Due.due("worst", x.worst(0, 0, 1, 1, 0), 10);
        }
        TripRounds x = Due.with("L3:0>1;T0:301+19;T0:300+20;T0:240+80");
        spelled(x, 0, 0, 1, 1, "L0.1:0>1");
        spelled(x, 0, 241, 1, 1, "L0.1:0>1");
        Due.due("earliest", x.earliest(0, 301, 1, 1), -5);
        x.delay(0, 1, 0, 1);
        x.delay(0, 0, 1, 1);
        spelled(x, 0, 241, 1, 1, "L0.1:0>1");
    }

    /** "the latest of its STOPS for which that is so" */
    private static void latestOfItsStops() {
        TripRounds x = Due.with("L0:0>1>2>3>4>5;T0:10+10+10+10+10+10;F0-2=20;F0-4=50");
        spelled(x, 0, 10, 5, 1, "W:0>2 L0.0:2>5");
        spelled(x, 0, 0, 5, 1, "W:0>4 L0.0:4>5");
        x.walk(0, 4, 51);
        spelled(x, 0, 0, 5, 1, "W:0>2 L0.0:2>5");
        x.walk(0, 2, 31);
        spelled(x, 0, 0, 5, 1, "L0.0:0>5");
        spelled(x, 0, 0, 5, 2, "L0.0:0>4 L0.0:4>5");
        spelled(x, 0, 0, 5, 3, "L0.0:0>3 L0.0:3>4 L0.0:4>5");
        spelled(x, 0, 0, 5, 6, "L0.0:0>1 L0.0:1>2 L0.0:2>3 L0.0:3>4 L0.0:4>5");
    }

    /** "to whose beginning there is THE JOURNEY by r less 1 in time" */
    private static void beginningByOneLess() {
        TripRounds x = Due.with("L0:1>5;L0:0>5;L0:0>1;T0:15+5;T1:0+20;T2:0+15");
        spelled(x, 0, 0, 5, 1, "L1.0:0>5");
        spelled(x, 0, 0, 5, 2, "L2.0:0>1 L0.0:1>5");
        x.delay(2, 0, 1, 1);
        spelled(x, 0, 0, 5, 2, "L1.0:0>5");
        // Ahead of it is the journey by one less, which may have fewer rides.
        TripRounds y = Due.with("L0:0>1;L0:2>1;L0:1>5;T0:0+9;T1:3+5;T2:9+5;F0-2=3;F0-1=9");
        spelled(y, 0, 0, 5, 1, "W:0>1 L2.0:1>5");
        spelled(y, 0, 0, 5, 2, "W:0>2 L1.0:2>1 L2.0:1>5");
        y.delay(1, 0, 1, 1);
        spelled(y, 0, 0, 5, 2, "L0.0:0>1 L2.0:1>5");
        beginningEarlierByMore();
    }

    /** One more RIDE leads to the beginning earlier, but ahead of the last RIDE it is one too many. */
    private static void beginningEarlierByMore() {
        TripRounds x = Due.with("L0:0>1;L0:0>2;L0:2>1;L0:1>3;T0:0+50;T1:0+10;T2:20+20;T3:60+5;F3-4=2");
        Due.due("earliest", x.earliest(0, 0, 1, 1), 50);
        Due.due("earliest", x.earliest(0, 0, 1, 2), 40);
        spelled(x, 0, 0, 3, 2, "L0.0:0>1 L3.0:1>3");
        spelled(x, 0, 0, 4, 2, "L0.0:0>1 L3.0:1>3 W:3>4");
        for (int rides = 3; rides <= 6; rides++) {
            spelled(x, 0, 0, 3, rides, "L1.0:0>2 L2.0:2>1 L3.0:1>3");
            spelled(x, 0, 0, 4, rides, "L1.0:0>2 L2.0:2>1 L3.0:1>3 W:3>4");
        }
        x.walk(0, 1, 45);
        spelled(x, 0, 0, 3, 1, "W:0>1 L3.0:1>3");
        spelled(x, 0, 0, 3, 2, "W:0>1 L3.0:1>3");
        spelled(x, 0, 0, 4, 2, "W:0>1 L3.0:1>3 W:3>4");
        spelled(x, 0, 0, 3, 3, "L1.0:0>2 L2.0:2>1 L3.0:1>3");
        Due.due("fare", x.fare(0, 0, 4, 2), 3);
        Due.due("waiting", x.waiting(0, 0, 4, 2), 15);
        Due.due("waiting", x.waiting(0, 0, 4, 3), 30);
    }

    private static void walkFromLeastStop() {
        TripRounds x = Due.with("L0:0>8;L0:0>4;L0:0>10;T0:0+5;T1:0+7;T2:0+1;F8-5=5;F4-5=3;F10-5=9");
        Due.due("earliest", x.earliest(0, 0, 5, 1), 10);
        spelled(x, 0, 0, 5, 1, "L1.0:0>4 W:4>5");
        x.delay(1, 0, 1, 1);
        spelled(x, 0, 0, 5, 1, "L0.0:0>8 W:8>5");
        x.delay(0, 0, 1, 1);
        spelled(x, 0, 0, 5, 1, "L2.0:0>10 W:10>5");
    }

    /** "it is that from which one set out": also among the others by its number. */
    private static void walkFromWhereOneSetOut() {
        TripRounds x = Due.with("L0:6>8;L0:6>4;T0:0+5;T1:0+7;F8-5=5;F4-5=3;F6-5=10");
        spelled(x, 6, 0, 5, 1, "L1.0:6>4 W:4>5");
        spelled(x, 6, 0, 5, 0, "W:6>5");
        x.delay(1, 0, 1, 1);
        spelled(x, 6, 0, 5, 1, "W:6>5");
        spelled(x, 6, 0, 5, 6, "W:6>5");
        x.walk(6, 5, 11);
        spelled(x, 6, 0, 5, 6, "L0.0:6>8 W:8>5");
    }

    /** The walk from where one set out doesn't count if another one is there earlier. */
    private static void setOutStopTooSlow() {
        TripRounds x = Due.with("L0:0>4;T0:0+10;F4-5=5;F0-5=16");
        spelled(x, 0, 0, 5, 0, "W:0>5");
        spelled(x, 0, 0, 5, 1, "L0.0:0>4 W:4>5");
        x.walk(0, 5, 60);
        spelled(x, 0, 0, 5, 6, "L0.0:0>4 W:4>5");
    }

    /** A ride that ends when the walk does, at a stop without a footpath, is none to walk behind. */
    private static void walkNeedsAPath() {
        TripRounds x = Due.with("L0:0>1;L0:0>4;T0:0+15;T1:0+10;F4-5=5");
        Due.due("earliest", x.earliest(0, 0, 5, 1), 15);
        spelled(x, 0, 0, 5, 1, "L1.0:0>4 W:4>5");
    }

    /** The ride ahead of a walk ends so much earlier; that need not be how early one can be there. */
    private static void walkBehindARideThatIsNotEarliest() {
        TripRounds x = Due.with("F0-3=2;F3-5=5;L0:0>3;L0:0>3;T1:0+9;T0:0+10;T0:3+6");
        Due.due("there", x.earliest(0, 0, 3, 1), 2);
        Due.due("on", x.earliest(0, 0, 5, 1), 14);
        spelled(x, 0, 0, 5, 1, "L0.1:0>3 W:3>5");
        spelled(x, 0, 0, 3, 1, "W:0>3");
        x.delay(0, 1, 1, 1);
        spelled(x, 0, 0, 5, 1, "L1.0:0>3 W:3>5");
    }

    /** "that RIDE (of several as told above)": least line, least trip, latest stop, by one less. */
    private static void rideAheadOfAWalk() {
        TripRounds x = Due.with("L0:7>8;L0:0>1>4;L0:0>4;T1:1+5+6;T1:0+5+5;T1:2+3+5;T2:4+6;F4-5=5;F0-1=4");
        spelled(x, 0, 0, 5, 1, "W:0>1 L1.1:1>4 W:4>5");
        spelled(x, 0, 2, 5, 1, "L1.2:0>4 W:4>5");
        spelled(x, 0, 3, 5, 1, "L2.0:0>4 W:4>5");
        spelled(x, 0, 0, 5, 2, "W:0>1 L1.1:1>4 W:4>5");
        x.walk(0, 1, 0);
        spelled(x, 0, 0, 5, 1, "L1.1:0>4 W:4>5");
        spelled(x, 0, 0, 5, 2, "L1.1:0>1 L1.1:1>4 W:4>5");
    }

    private static void walkAheadOfARide() {
        TripRounds x = Due.with("F0-1=5;L0:1>2;T0:5+5;L0:0>1;T1:0+5");
        spelled(x, 0, 0, 2, 1, "W:0>1 L0.0:1>2");
        spelled(x, 0, 0, 2, 2, "L1.0:0>1 L0.0:1>2");
        Due.due("too late", x.earliest(0, 1, 2, 2), -5);
    }

    /** "How many LEGS": none, one, as many as one change more makes. JourneyTest has 13, the most. */
    private static void legsNoneAndMost() {
        TripRounds x = Due.with("L0:1>2;L0:3>4;L0:5>6;L0:7>8;L0:9>10;F10-11=1",
            "F0-1=1;F2-3=1;F4-5=1;F6-7=1;F8-9=1", "T0:10+5;T1:20+5;T2:30+5;T3:40+5;T4:50+5");
        for (int to = 0; to < 12; to++) {
            int rides = to / 2;
            Due.due("legs to " + to, x.legs(0, 9, to, rides), to);
            if (rides > 0) Due.due("legs to " + to + " by one less", x.legs(0, 9, to, rides - 1), -5);
            Due.due("legs to " + to + " by six", x.legs(0, 9, to, 6), to);
            Due.due("fare to " + to, x.fare(0, 9, to, 6), 3 * rides);
            int end = to == 0 ? 9 : to == 1 ? 10 : 5 + 10 * rides + to % 2;
            Due.due("waiting to " + to, x.waiting(0, 9, to, 6), end - 9 - 5 * rides - (to + 1) / 2);
            Due.due("legs to " + to + " too late", x.legs(0, 10, to, 6), to < 2 ? to : -5);
        }
    }

    /** Six rides, each with a walk ahead of it and behind it: at stops 10 and 11 one is first by a walk, then by a ride. */
    private static void mostLegsOfAll() {
        TripRounds x = Due.with("L0:10>1;L0:11>10;L0:2>11;L0:3>4;L0:5>6;L0:7>8",
            "F0-10=1;F1-11=1;F2-10=1;F3-11=1;F4-5=1;F6-7=1;F8-9=1", "T0:10+5;T1:20+5;T2:30+5;T3:40+5;T4:50+5;T5:60+5");
        Due.due("earliest", x.earliest(0, 9, 9, 6), 66);
        String due = "W:0>10 L0.0:10>1 W:1>11 L1.0:11>10 W:10>2 L2.0:2>11 W:11>3 L3.0:3>4 W:4>5 L4.0:5>6 W:6>7 L5.0:7>8 W:8>9";
        spelled(x, 0, 9, 9, 6, due);
        Due.due("legs", x.legs(0, 9, 9, 6), 13);
        Due.due("bytes", x.told(6), 103);
        Due.due("the last byte", x.paper(102), '9');
        Due.due("behind it", x.paper(103), NONE);
        legIs(x, new int[] {0, 9, 9, 6}, 0, -5, -5, 0, 10, 9, 10);
        legIs(x, new int[] {0, 9, 9, 6}, 12, -5, -5, 8, 9, 65, 66);
        legIs(x, new int[] {0, 9, 9, 6}, 13, NONE, NONE, NONE, NONE, NONE, NONE);
        Due.due("fare", x.fare(0, 9, 9, 6), 18);
        Due.due("waiting", x.waiting(0, 9, 9, 6), 20);
        Due.due("worth", x.worth(0, 9, 9), 1 << 6);
        Due.due("one less", x.legs(0, 9, 9, 5), -5);
        Due.due("too late", x.legs(0, 10, 9, 6), -5);
        spelled(x, 0, 9, 10, 6, "W:0>10");
        spelled(x, 0, 9, 8, 6, due.substring(0, due.length() - 6));
    }

    private static void legIs(TripRounds x, int[] c, int i, int... due) {
        for (int what = 0; what < 6; what++) {
            Due.due("leg " + i + " what " + what, x.leg(c[0], c[1], c[2], c[3], i, what), due[what]);
        }
    }

    /** "of a WALK that at which one is there": when one sets out, or when the ride ahead of it ends. */
    private static void legMinutes() {
        TripRounds x = Due.with("F0-1=4;L0:1>2>3;T0:10+5+5;D0.0@1+7;F3-4=60;L0:4>5;T1:100+5");
        int[] call = {0, 1, 5, 2};
        Due.due("legs", x.legs(0, 1, 5, 2), 4);
        legIs(x, call, 0, -5, -5, 0, 1, 1, 5);
        legIs(x, call, 1, 0, 0, 1, 3, 10, 27);
        legIs(x, call, 2, -5, -5, 3, 4, 27, 87);
        legIs(x, call, 3, 1, 0, 4, 5, 100, 105);
        legIs(x, call, 4, NONE, NONE, NONE, NONE, NONE, NONE);
        legIs(x, new int[] {3, 1999, 4, 0}, 0, -5, -5, 3, 4, 1999, 2059);
        legIs(x, new int[] {0, 6, 4, 1}, 0, -5, -5, 0, 1, 6, 10);
        legIs(x, new int[] {0, 7, 4, 1}, 0, NONE, NONE, NONE, NONE, NONE, NONE);
    }

    /** The last line's last trip between the first stop and the last. */
    private static void legOfLastStops() {
        TripRounds x = Due.with("L0:1>2;L0:1>2;L0:1>2;L0:1>2;L0:1>2;L0:1>2;L0:1>2;L0:11>0",
            "T7:0+9;T7:1+9;T7:2+9;T7:3+9;T7:4+9;T7:5+9");
        legIs(x, new int[] {11, 5, 0, 6}, 0, 7, 5, 11, 0, 5, 14);
        spelled(x, 11, 5, 0, 1, "L7.5:11>0");
    }

    /** Each kind's fare over 1 to 5 stops more, and all of them together; a walk is free. */
    private static void faresOfAll() {
        int[][] due = {{3, 4, 5, 6, 7}, {4, 5, 6, 7, 8}, {3, 4, 5, 6, 7}, {6, 8, 10, 12, 14}, {9, 10, 11, 12, 13}, {3, 5, 7, 9, 11}};
        for (int kind = 0; kind < 6; kind++) {
            TripRounds x = Due.with("L" + kind + ":0>1>2>3>4>5;T0:1200+1+1+1+1+1");
            for (int from = 0; from < 5; from++) {
                for (int to = from + 1; to < 6; to++) {
                    Due.due("kind " + kind + " over " + (to - from), x.fare(from, 1200 + from, to, 1), due[kind][to - from - 1]);
                }
            }
        }
        TripRounds y = Due.with("L0:0>1;L1:1>2;L2:2>3;L3:3>4;L4:4>5;L5:5>6;F6-7=60;F8-0=1",
            "T0:1200+1;T1:1201+1;T2:1202+1;T3:1203+1;T4:1204+1;T5:1205+1");
        Due.due("one of each", y.fare(0, 0, 6, 6), 3 + 4 + 3 + 6 + 9 + 3);
        Due.due("with walks", y.fare(8, 1199, 7, 6), 28);
        Due.due("walk", y.fare(8, 1199, 0, 6), 0);
        Due.due("none", y.fare(8, 1200, 7, 6), -5);
    }

    /** "neither in a RIDE nor in a WALK" */
    private static void waitingOfAll() {
        TripRounds x = Due.with("F0-1=4;L0:1>2>3;T0:10+5+5;F3-4=60;L0:4>5;T1:100+5");
        Due.due("all", x.waiting(0, 1, 5, 2), 5 + 20);
        Due.due("from 0", x.waiting(0, 0, 5, 2), 6 + 20);
        Due.due("just in time", x.waiting(0, 6, 5, 2), 20);
        Due.due("too late", x.waiting(0, 7, 5, 2), -5);
        Due.due("walk", x.waiting(0, 7, 1, 0), 0);
        Due.due("ride at once", x.waiting(1, 10, 3, 1), 0);
        Due.due("ride", x.waiting(1, 0, 3, 1), 10);
        for (int k = 0; k < 80; k++) x.delay(1, 0, 0, 99);
        x.delay(1, 0, 1, 99);
        Due.due("long", x.waiting(0, 0, 5, 2), 8124 - 4 - 10 - 60 - 104);
    }
}
