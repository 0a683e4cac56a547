/** The edges of WORTH IT, PROFILE, LATEST, REACHED, WORST and CUT (Terms 2; promises 14 and 19 to 23). */
public final class SpanEdgeTest {
    private static final int NONE = -1, BAD = -2;
    private static final int HIGH = Integer.MAX_VALUE;
    private static final int NEVER = 10000;

    public static void main(String[] args) {
        eachIsWorthIt();
        worthOnlyIfLess();
        worthNothing();
        profileOfATrip();
        profileBesideNever();
        profileOnlyIfLess();
        profileOfAWalk();
        profileByRides();
        profileSpan();
        profileAtTheEnd();
        latestOfATrip();
        latestOfAWalk();
        latestOfTheStopItself();
        latestByRides();
        latestOfMany();
        latestBeyond();
        reachedJustThen();
        reachedAll();
        worstOnlyIfLater();
        worstNever();
        worstOfSeveral();
        worstLastTrip();
        worstByRides();
        cutOnlyIfLater();
        cutNeitherOfTheTwo();
        cutOfSeveral();
        cutLegsNotStopsRiddenThrough();
        cutFirstAndLastStop();
        cutWalks();
        lateLosses();
        lossesLeaveAll();
        Due.end();
    }

    // ---- worth it

    /** A walk of 60, and by each ride more one is there 5 minutes earlier. */
    private static TripRounds ladder() {
        return Due.with("F0-6=60;L0:0>1>6;L0:1>2>6;L0:2>3>6;L0:3>4>6;L0:4>5>6;L0:5>6",
            "T0:0+1+54;T1:1+1+48;T2:2+1+42;T3:3+1+36;T4:4+1+30;T5:5+25");
    }

    private static void eachIsWorthIt() {
        TripRounds x = ladder();
        for (int rides = 0; rides <= 6; rides++) {
            Due.due("by " + rides, x.earliest(0, 0, 6, rides), 60 - 5 * rides);
            Due.due("fare by " + rides, x.fare(0, 0, 6, rides), rides == 0 ? 0 : 3 * rides + (rides < 6 ? 1 : 0));
        }
        Due.due("worth", x.worth(0, 0, 6), 127);
        Due.due("worth too late", x.worth(0, 1, 6), 1);
        x.walk(0, 6, 0);
        Due.due("worth without a walk", x.worth(0, 0, 6), 126);
        for (int to = 1; to < 6; to++) Due.due("worth to " + to, x.worth(0, 0, to), 1 << to);
        x.drop(5);
        Due.due("worth without the last", x.worth(0, 0, 6), 62);
        x.drop(0);
        Due.due("worth without the first", x.worth(0, 0, 6), 0);
    }

    /** "less than by r less 1": as early is not. */
    private static void worthOnlyIfLess() {
        TripRounds x = Due.with("L0:0>1;L0:0>2;L0:2>1;T0:0+10;T1:0+5;T2:5+5;F0-1=10");
        Due.due("all alike", x.worth(0, 0, 1), 1);
        x.walk(0, 1, 11);
        Due.due("one ride is less", x.worth(0, 0, 1), 3);
        x.delay(0, 0, 1, 1);
        Due.due("two rides are less", x.worth(0, 0, 1), 5);
        x.walk(0, 1, 12);
        Due.due("each is less", x.worth(0, 0, 1), 7);
    }

    private static void worthNothing() {
        TripRounds x = ladder();
        Due.due("never", x.worth(6, 0, 1), 0);
        for (int stop = 0; stop < 12; stop++) Due.due("stop itself", x.worth(stop, 1999, stop), 1);
        for (int at = 0; at < 2000; at += 1999) Due.due("walk", x.worth(6, at, 0), 1);
    }

    // ---- profile

    private static void profileIs(TripRounds x, int[] c, int... due) {
        Due.due("profile: how many", x.profile(c[0], c[1], c[2], c[3], c[4], -1), due.length);
        for (int i = 0; i < due.length; i++) {
            Due.due("profile " + i, x.profile(c[0], c[1], c[2], c[3], c[4], i), due[i]);
        }
        Due.due("profile's end", x.profile(c[0], c[1], c[2], c[3], c[4], due.length), -5);
        Due.due("profile's end", x.profile(c[0], c[1], c[2], c[3], c[4], HIGH), -5);
    }

    private static void profileOfATrip() {
        TripRounds x = Due.with("L0:0>1;T0:50+5;T0:60+5;T0:149+5");
        profileIs(x, new int[] {0, 1, 1, 50, 149}, 50, 60, 149);
        profileIs(x, new int[] {0, 1, 1, 51, 149}, 60, 149);
        profileIs(x, new int[] {0, 1, 1, 50, 148}, 50, 60);
        profileIs(x, new int[] {0, 1, 1, 49, 50}, 50);
        profileIs(x, new int[] {0, 1, 1, 49, 49});
        profileIs(x, new int[] {0, 1, 1, 50, 50}, 50);
        profileIs(x, new int[] {0, 1, 1, 51, 51});
    }

    /** "isn't never and is less than leaving at t plus 1 (or that is never)" */
    private static void profileBesideNever() {
        TripRounds x = Due.with("L0:0>1;T0:50+5");
        profileIs(x, new int[] {0, 1, 1, 0, 99}, 50);
        profileIs(x, new int[] {0, 1, 1, 51, 150});
        profileIs(x, new int[] {1, 0, 6, 0, 99});
        profileIs(x, new int[] {0, 2, 6, 0, 99});
    }

    /** A trip that is overtaken is not worth leaving for. */
    private static void profileOnlyIfLess() {
        TripRounds x = Due.with("L0:0>1;T0:50+20;T0:55+15;T0:57+14");
        profileIs(x, new int[] {0, 1, 1, 0, 99}, 55, 57);
        x.delay(0, 1, 1, 1);
        profileIs(x, new int[] {0, 1, 1, 0, 99}, 50, 57);
        x.delay(0, 0, 1, 1);
        profileIs(x, new int[] {0, 1, 1, 0, 99}, 57);
    }

    private static void profileOfAWalk() {
        TripRounds x = Due.with("F0-1=10;L0:0>1;T0:5+7");
        Due.due("each minute", x.profile(0, 1, 0, 0, 99, -1), 100);
        Due.due("last", x.profile(0, 1, 0, 0, 99, 99), 99);
        Due.due("beyond", x.profile(0, 1, 0, 0, 99, 100), -5);
        profileIs(x, new int[] {0, 1, 1, 0, 6}, 0, 1, 5, 6);
        profileIs(x, new int[] {0, 1, 1, 2, 4});
        profileIs(x, new int[] {1, 1, 0, 7, 9}, 7, 8, 9);
    }

    private static void profileByRides() {
        TripRounds x = Due.with("L0:0>1;L0:1>2;L0:0>2;T0:10+5;T1:15+5;T2:5+20");
        profileIs(x, new int[] {0, 2, 0, 0, 99});
        profileIs(x, new int[] {0, 2, 1, 0, 99}, 5);
        profileIs(x, new int[] {0, 2, 2, 0, 99}, 10);
        profileIs(x, new int[] {0, 2, 6, 0, 99}, 10);
    }

    /** "last is below first, or they are 100 apart or more" */
    private static void profileSpan() {
        TripRounds x = Due.with("F0-1=10");
        Due.due("one", x.profile(0, 1, 0, 7, 7, -1), 1);
        Due.due("99 apart", x.profile(0, 1, 0, 7, 106, -1), 100);
        Due.due("100 apart", x.profile(0, 1, 0, 7, 107, -1), BAD);
        Due.due("1999 apart", x.profile(0, 1, 0, 0, 1999, -1), BAD);
        Due.due("below", x.profile(0, 1, 0, 7, 6, -1), BAD);
        Due.due("far below", x.profile(0, 1, 0, 1999, 0, -1), BAD);
        Due.due("below zero", x.profile(0, 1, 0, -1, 0, -1), BAD);
        Due.due("above", x.profile(0, 1, 0, 1950, 2000, -1), BAD);
        Due.due("wrap-around", x.profile(0, 1, 0, HIGH, Integer.MIN_VALUE, -1), BAD);
        Due.due("wrap-around", x.profile(0, 1, 0, Integer.MIN_VALUE, HIGH, -1), BAD);
        Due.due("i of a span that may not be", x.profile(0, 1, 0, 7, 6, -2), NONE);
    }

    /** 1999 is held against 2000, at which none leaves but the walk takes as long. */
    private static void profileAtTheEnd() {
        TripRounds x = Due.with("L0:0>1;T0:1997+2;F2-3=60");
        profileIs(x, new int[] {0, 1, 1, 1900, 1999}, 1997);
        profileIs(x, new int[] {2, 3, 1, 1998, 1999}, 1998, 1999);
        x.delay(0, 0, 0, 2);
        profileIs(x, new int[] {0, 1, 1, 1900, 1999}, 1999);
        x.delay(0, 0, 0, 1);
        Due.due("goes on at 2000", x.earliest(0, 1999, 1, 1), 2002);
        profileIs(x, new int[] {0, 1, 1, 1900, 1999});
        profileIs(x, new int[] {0, 1, 1, 0, 0});
    }

    // ---- latest

    private static void latestOfATrip() {
        TripRounds x = Due.with("L0:0>1;T0:0+5;T0:1900+99");
        Due.due("by its minute", x.latest(0, 1, 5, 1), 0);
        Due.due("by one less", x.latest(0, 1, 4, 1), -5);
        Due.due("by 0", x.latest(0, 1, 0, 6), -5);
        Due.due("by one less", x.latest(0, 1, 1998, 1), 0);
        Due.due("by 1999", x.latest(0, 1, 1999, 1), 1900);
        Due.due("never", x.latest(1, 0, 1999, 6), -5);
    }

    private static void latestOfAWalk() {
        TripRounds x = Due.with("F0-1=60;F0-2=1");
        Due.due("by 1999", x.latest(0, 1, 1999, 0), 1939);
        Due.due("by 60", x.latest(0, 1, 60, 0), 0);
        Due.due("by 59", x.latest(0, 1, 59, 6), -5);
        Due.due("by 1", x.latest(0, 2, 1, 0), 0);
        Due.due("by 0", x.latest(0, 2, 0, 0), -5);
        Due.due("by 1999", x.latest(0, 2, 1999, 6), 1998);
    }

    private static void latestOfTheStopItself() {
        TripRounds x = Due.with("F0-1=60");
        for (int by : new int[] {0, 1, 1000, 1998, 1999}) {
            for (int rides = 0; rides <= 6; rides += 3) Due.due("by " + by, x.latest(0, 0, by, rides), by);
        }
    }

    private static void latestByRides() {
        TripRounds x = Due.with("L0:0>1;L0:1>2;L0:0>2;T0:10+5;T1:15+5;T2:5+20;F0-2=24");
        Due.due("by 0", x.latest(0, 2, 25, 0), 1);
        Due.due("by 1", x.latest(0, 2, 25, 1), 5);
        Due.due("by 2", x.latest(0, 2, 25, 2), 10);
        Due.due("by 2, earlier", x.latest(0, 2, 20, 2), 10);
        Due.due("by 2, too early", x.latest(0, 2, 19, 2), -5);
        Due.due("by 1, too early", x.latest(0, 2, 23, 1), -5);
        Due.due("by 1, just so", x.latest(0, 2, 24, 1), 0);
    }

    /** At each minute of a long span, held against each minute by itself. */
    private static void latestOfMany() {
        TripRounds x = Due.with("L0:0>1;T0:3+9;T0:100+9;T0:511+9;T0:512+9;T0:1023+9;T0:1500+9");
        int[] begins = {3, 100, 511, 512, 1023, 1500};
        for (int k = 0; k < 6; k++) {
            Due.due("by the minute of " + k, x.latest(0, 1, begins[k] + 9, 1), begins[k]);
            Due.due("by one less", x.latest(0, 1, begins[k] + 8, 1), k == 0 ? -5 : begins[k - 1]);
            Due.due("by one more", x.latest(0, 1, begins[k] + 10, 1), begins[Math.min(5, k == 2 ? 3 : k)]);
        }
    }

    /** A trip that ends behind 1999 is for none to be there by. */
    private static void latestBeyond() {
        TripRounds x = Due.with("L0:0>1;T0:1990+9;F1-2=1");
        Due.due("by 1999", x.latest(0, 1, 1999, 1), 1990);
        Due.due("and a walk", x.latest(0, 2, 1999, 1), -5);
        x.delay(0, 0, 1, 1);
        Due.due("by 1999", x.latest(0, 1, 1999, 1), -5);
        Due.due("by 2000", x.latest(0, 1, 2000, 1), BAD);
    }

    // ---- reached

    /** "isn't above a MINUTE" */
    private static void reachedJustThen() {
        TripRounds x = Due.with("L0:0>1>11;T0:10+10+10;F11-10=5;F0-2=1");
        Due.due("ahead of all", x.reached(0, 1, 0, 6), 0);
        Due.due("at once", x.reached(0, 1, 1, 6), 1);
        Due.due("a walk", x.reached(0, 1, 2, 0), 5);
        Due.due("just not", x.reached(0, 1, 19, 6), 5);
        Due.due("just then", x.reached(0, 1, 20, 6), 7);
        Due.due("just not", x.reached(0, 1, 29, 1), 7);
        Due.due("just then", x.reached(0, 1, 30, 1), 7 + 2048);
        Due.due("just then", x.reached(0, 1, 35, 1), 7 + 2048 + 1024);
        Due.due("by no ride", x.reached(0, 1, 1999, 0), 5);
        Due.due("too late", x.reached(0, 11, 1999, 6), 5);
        Due.due("at 1999", x.reached(0, 1999, 1999, 6), 1);
        Due.due("at 1999 by 0", x.reached(0, 1999, 0, 6), 0);
        for (int k = 0; k < 20; k++) x.delay(0, 0, 2, 99);
        Due.due("behind 1999", x.reached(0, 1, 1999, 6), 7);
    }

    private static void reachedAll() {
        TripRounds x = Due.with("L0:0>1>2>3>4>5;L0:11>10>9>8>7>6;F5-6=1;F0-11=1;T0:0+1+1+1+1+1;T1:1+1+1+1+1+1");
        Due.due("all", x.reached(0, 0, 6, 1), 4095);
        Due.due("all but one", x.reached(0, 0, 5, 1), 4095 - 64);
        Due.due("two", x.reached(0, 0, 1999, 0), 1 + 2048);
    }

    // ---- worst

    private static void lossIs(String call, int which, int whichDue, int later, int laterDue) {
        Due.due(call + ": which", which, whichDue);
        Due.due(call + ": how much later", later, laterDue);
    }

    private static void worstIs(TripRounds x, int[] c, int which, int later) {
        String call = "worst from " + c[0] + " at " + c[1] + " to " + c[2] + " by " + c[3];
        lossIs(call, x.worst(c[0], c[1], c[2], c[3], 0), which, x.worst(c[0], c[1], c[2], c[3], 1), later);
    }

    /** "only if it is later" */
    private static void worstOnlyIfLater() {
        TripRounds x = Due.with("L0:0>1;L0:0>1;T0:5+5;T1:5+5;F0-2=5;L2:3>4;T2:400+5");
        worstIs(x, new int[] {0, 0, 1, 6}, -5, -5);
        x.delay(1, 0, 1, 1);
        worstIs(x, new int[] {0, 0, 1, 6}, 0, 1);
        x.delay(0, 0, 1, 2);
        worstIs(x, new int[] {0, 0, 1, 6}, 10, 1);
        worstIs(x, new int[] {0, 0, 2, 6}, -5, -5);
        worstIs(x, new int[] {0, 0, 0, 6}, -5, -5);
        worstIs(x, new int[] {3, 0, 4, 6}, -5, -5);
        worstIs(x, new int[] {1, 0, 0, 6}, -5, -5);
    }

    /** "never is 10000" */
    private static void worstNever() {
        TripRounds x = Due.with("L0:0>1;T0:5+5");
        worstIs(x, new int[] {0, 0, 1, 1}, 0, NEVER - 10);
        worstIs(x, new int[] {0, 5, 1, 1}, 0, NEVER - 10);
        worstIs(x, new int[] {0, 6, 1, 1}, -5, -5);
        for (int k = 0; k < 90; k++) x.delay(0, 0, 1, 99);
        worstIs(x, new int[] {0, 0, 1, 1}, 0, NEVER - 10 - 8910);
        x.walk(0, 1, 60);
        worstIs(x, new int[] {0, 0, 1, 1}, -5, -5);
        TripRounds y = Due.with("L0:0>1;T0:0+1");
        worstIs(y, new int[] {0, 0, 1, 1}, 0, NEVER - 1);
    }

    /** "of several of the least LINE, then the least TRIP" */
    private static void worstOfSeveral() {
        TripRounds x = Due.with("L0:5>6;L0:1>2;L0:0>1;T1:900+5;T2:801+5;T2:0+5;T1:5+5");
        worstIs(x, new int[] {0, 0, 2, 2}, 11, 895);
        x.drop(1);
        worstIs(x, new int[] {0, 0, 2, 2}, 10, NEVER - 905);
        TripRounds y = Due.with("L0:0>1;L0:1>2;T0:0+5;T0:1+5;T1:5+5;T1:6+9");
        worstIs(y, new int[] {0, 0, 2, 2}, 0, 5);
        worstIs(y, new int[] {0, 1, 2, 2}, 1, NEVER - 15);
        worstIs(y, new int[] {1, 0, 2, 2}, 10, 5);
        TripRounds z = Due.with("L0:0>1;L0:1>2;T0:0+5;T1:5+5;T0:1+5;T1:8+9");
        worstIs(z, new int[] {0, 0, 2, 2}, 0, 7);
        z.delay(1, 1, 1, 1);
        worstIs(z, new int[] {0, 0, 2, 2}, 0, 8);
    }

    private static void worstLastTrip() {
        TripRounds x = Due.with("L0:1>2;L0:1>2;L0:1>2;L0:1>2;L0:1>2;L0:1>2;L0:1>2;L0:11>0",
            "T7:0+9;T7:1+9;T7:2+9;T7:3+9;T7:4+9;T7:5+9");
        worstIs(x, new int[] {11, 5, 0, 6}, 75, NEVER - 14);
        worstIs(x, new int[] {11, 4, 0, 6}, 74, 1);
    }

    private static void worstByRides() {
        TripRounds x = Due.with("L0:0>2;L0:0>1;L0:1>2;T0:0+50;T1:0+5;T2:5+5");
        worstIs(x, new int[] {0, 0, 2, 0}, -5, -5);
        worstIs(x, new int[] {0, 0, 2, 1}, 0, NEVER - 50);
        worstIs(x, new int[] {0, 0, 2, 2}, 10, 40);
        worstIs(x, new int[] {0, 0, 2, 6}, 10, 40);
    }

    // ---- cut

    private static void cutIs(TripRounds x, int[] c, int which, int later) {
        String call = "cut from " + c[0] + " at " + c[1] + " to " + c[2] + " by " + c[3];
        lossIs(call, x.cut(c[0], c[1], c[2], c[3], 0), which, x.cut(c[0], c[1], c[2], c[3], 1), later);
    }

    private static void cutOnlyIfLater() {
        TripRounds x = Due.with("L0:0>1;L0:1>3;L0:0>2;L0:2>3;T0:0+5;T1:5+5;T2:0+5;T3:5+5");
        cutIs(x, new int[] {0, 0, 3, 2}, -5, -5);
        x.delay(3, 0, 1, 1);
        cutIs(x, new int[] {0, 0, 3, 2}, 1, 1);
        x.delay(1, 0, 1, 2);
        cutIs(x, new int[] {0, 0, 3, 2}, 2, 1);
        cutIs(x, new int[] {0, 0, 3, 1}, -5, -5);
        cutIs(x, new int[] {3, 0, 0, 6}, -5, -5);
        cutIs(x, new int[] {0, 1, 3, 6}, -5, -5);
    }

    /** "(neither of the two)": without those all would be cut off. */
    private static void cutNeitherOfTheTwo() {
        TripRounds x = Due.with("L0:0>1;T0:0+5;F4-5=9");
        cutIs(x, new int[] {0, 0, 1, 6}, -5, -5);
        cutIs(x, new int[] {4, 0, 5, 6}, -5, -5);
        cutIs(x, new int[] {0, 0, 0, 6}, NONE, NONE);
    }

    private static void cutOfSeveral() {
        TripRounds x = Due.with("L0:0>7;L0:7>3;L0:3>5;T0:0+5;T1:5+5;T2:10+5");
        cutIs(x, new int[] {0, 0, 5, 3}, 3, NEVER - 15);
        x.walk(0, 3, 12);
        cutIs(x, new int[] {0, 0, 5, 3}, 3, NEVER - 15);
        Due.table(x, "L0:7>5;T3:5+30;T2:20+5");
        cutIs(x, new int[] {0, 0, 5, 3}, 3, 20);
        x.walk(0, 3, 0);
        cutIs(x, new int[] {0, 0, 5, 3}, 7, NEVER - 15);
    }

    /** "without any LEG to it or from it": a ride through it is none. */
    private static void cutLegsNotStopsRiddenThrough() {
        TripRounds x = Due.with("L0:0>1>2;T0:0+5+5");
        cutIs(x, new int[] {0, 0, 2, 6}, -5, -5);
        Due.table(x, "L0:1>2;T1:5+4");
        cutIs(x, new int[] {0, 0, 2, 6}, 1, 1);
        cutIs(x, new int[] {0, 0, 2, 1}, -5, -5);
    }

    private static void cutFirstAndLastStop() {
        TripRounds x = Due.with("L0:5>0;L0:0>6;L0:5>11;L0:11>7;T0:0+5;T1:5+5;T2:0+5;T3:5+5");
        cutIs(x, new int[] {5, 0, 6, 2}, 0, NEVER - 10);
        cutIs(x, new int[] {5, 0, 7, 2}, 11, NEVER - 10);
        cutIs(x, new int[] {5, 0, 0, 2}, -5, -5);
    }

    /** Late TRIPS, that go on above 1999, are lost as others are. */
    private static void lateLosses() {
        TripRounds x = Due.with("L0:0>1;L0:1>2;T0:1980+10;T1:1990+9");
        int more = 60 * 99;
        for (int n = 0; n < 60; n++) x.delay(0, 0, 0, 99);
        for (int n = 0; n < 60; n++) x.delay(1, 0, 0, 99);
        int[] call = {0, 1999, 2, 2};
        Due.due("earliest", x.earliest(0, 1999, 2, 2), 1999 + more);
        cutIs(x, call, 1, NEVER - 1999 - more);
        worstIs(x, call, 0, NEVER - 1999 - more);
        Due.table(x, "L0:0>3>2;T2:1+1+1");
        for (int n = 0; n < 90; n++) x.delay(2, 0, 0, 99);
        cutIs(x, call, 1, 3 + 90 * 99 - 1999 - more);
        worstIs(x, call, 0, 3 + 90 * 99 - 1999 - more);
    }

    /** A walk to the stop, and one from it, are legs. */
    private static void cutWalks() {
        TripRounds x = Due.with("F0-4=5;L0:4>1;T0:5+5;L0:0>3;T1:0+5;F3-2=5;F1-2=60");
        cutIs(x, new int[] {0, 0, 1, 6}, 4, NEVER - 10);
        cutIs(x, new int[] {0, 0, 2, 6}, 3, 60);
        Due.due("earliest", x.earliest(0, 0, 2, 6), 10);
    }

    /** What is left out for the asking is there again behind it. */
    private static void lossesLeaveAll() {
        TripRounds x = Due.with("L0:0>1;L0:1>2;L0:0>11;L0:11>2;T0:0+5;T1:5+5;T2:0+5;T3:5+6");
        String before = Setting.net(x);
        for (int again = 0; again < 3; again++) {
            worstIs(x, new int[] {0, 0, 2, 2}, 0, 1);
            Due.due("earliest", x.earliest(0, 0, 2, 2), 10);
            cutIs(x, new int[] {0, 0, 2, 2}, 1, 1);
            Due.due("earliest", x.earliest(0, 0, 2, 2), 10);
            Due.due("reached", x.reached(0, 0, 10, 2), 2055);
        }
        Due.due("all behind it", Setting.net(x), before);
    }
}
