import java.util.Arrays;

/**
 * A trip planner on timetables. What each call promises stands in ../shared/DOC.md.
 * All rows are made once, with the object, and used again by every call.
 */
public final class TripRounds {
    public static final int NONE = -1, BAD = -2, STATE = -3, FULL = -4;

    private static final int MISSING = -5, NOTHING = -11, BEYOND = -13, BELOW = -14;
    private static final int NO_PLACE = -2000000000;
    private static final int FAULT_BASE = -100, ENDED_BASE = 100;

    private static final int STOPS = 12, LINES = 8, TRIPS = 6, SHORTEST = 2, LONGEST = 6;
    private static final int LAST_MINUTE = 1999, LAST_DELAYED = 9000;
    private static final int MOST_RIDES = 6, MOST_WALK = 60, MOST_DELAY = 99, SPAN = 100;
    /** Halved down to 1, steps from this one on come past all minutes to leave. */
    private static final int WIDEST_STEP = 1024;
    private static final int TAPE_ROOM = 80, PAPER_ROOM = 160;

    /** Above every minute that can be: trips end by 9000 and a walk takes 60 at most. */
    private static final int NEVER = 10000;

    private static final int BUS = 0, TRAM = 1, NIGHT = 2, EXPRESS = 3, FERRY = 4, CABLE = 5;

    private final Net net;
    private final Net kept;
    private final Net before;
    private final Search search;
    private final Route route;
    private final Board departures;
    private final Text tape;
    private final Text spelled;
    private final Reader reader;
    private final Lists lists;
    private boolean hasImage;

    public TripRounds() {
        net = new Net();
        kept = new Net();
        before = new Net();
        search = new Search(net);
        route = new Route(net, search);
        departures = new Board(net);
        tape = new Text(TAPE_ROOM);
        spelled = new Text(PAPER_ROOM);
        reader = new Reader(net, tape);
        lists = new Lists();
        hasImage = false;
    }

    // ---- the tape and the timetable that it tells

    public int feed(int letter) {
        if (letter < 1 || letter > 127) return BAD;
        if (tape.length >= TAPE_ROOM) return FULL;
        tape.put(letter);
        return tape.length;
    }

    public int clear() {
        int had = tape.length;
        tape.length = 0;
        return had;
    }

    public int table() {
        before.copyFrom(net);
        int parts = reader.readTable();
        if (parts < 0) net.copyFrom(before);
        tape.length = 0;
        return parts;
    }

    // ---- what the timetable holds

    public int line(int line, int what) {
        if (!net.hasLine(line)) return NONE;
        switch (what) {
            case 0: return net.kinds[line];
            case 1: return net.sizes[line];
            case 2: return net.trips[line];
            case 3: return net.countRunning(line);
            default: return NONE;
        }
    }

    public int stop(int line, int i) {
        if (!net.hasPlace(line, i)) return NONE;
        return net.stops[line][i];
    }

    public int minute(int line, int trip, int i) {
        if (!net.hasTrip(line, trip) || !net.hasPlace(line, i)) return NONE;
        return net.minuteOf(line, trip, i);
    }

    public int runs(int line, int trip) {
        if (!net.hasTrip(line, trip)) return NONE;
        return net.isRunning(line, trip) ? 1 : 0;
    }

    public int foot(int one, int other) {
        if (!isStop(one) || !isStop(other) || one == other) return NONE;
        return net.paths[one][other] == 0 ? MISSING : net.paths[one][other];
    }

    public int walk(int one, int other, int minutes) {
        int was = foot(one, other);
        if (was == NONE) return NONE;
        if (minutes < 0 || minutes > MOST_WALK) return BAD;
        net.putPath(one, other, minutes);
        return was;
    }

    public int delay(int line, int trip, int i, int minutes) {
        if (!net.hasTrip(line, trip) || !net.hasPlace(line, i)) return NONE;
        if (minutes < 1 || minutes > MOST_DELAY) return BAD;
        if (!net.putDelay(line, trip, i, minutes)) return FULL;
        return net.minuteOf(line, trip, i);
    }

    public int drop(int line) {
        if (!net.hasLine(line)) return NONE;
        if (net.trips[line] == 0) return STATE;
        net.trips[line]--;
        return net.trips[line];
    }

    // ---- journeys

    public int earliest(int from, int at, int to, int rides) {
        int refused = refusal(from, at, to, rides);
        if (refused != 0) return refused;
        return orMissing(search.arrival(from, at, to, rides));
    }

    public int worth(int from, int at, int to) {
        int refused = refusal(from, at, to, 0);
        if (refused != 0) return refused;
        search.run(from, at, MOST_RIDES);
        int bits = 0;
        int ahead = NEVER;
        for (int r = 0; r <= MOST_RIDES; r++) {
            int now = search.best[r][to];
            if (now < ahead) bits |= 1 << r;
            ahead = now;
        }
        return bits;
    }

    public int legs(int from, int at, int to, int rides) {
        int refused = refusal(from, at, to, rides);
        if (refused != 0) return refused;
        return route.trace(from, at, to, rides) ? route.count : MISSING;
    }

    public int leg(int from, int at, int to, int rides, int i, int what) {
        if (i < 0 || what < 0 || what >= Route.TOLD) return NONE;
        int refused = refusal(from, at, to, rides);
        if (refused != 0) return refused;
        if (!route.trace(from, at, to, rides) || i >= route.count) return NONE;
        return route.tell(i, what);
    }

    public int fare(int from, int at, int to, int rides) {
        int refused = refusal(from, at, to, rides);
        if (refused != 0) return refused;
        return route.trace(from, at, to, rides) ? route.sumFares() : MISSING;
    }

    public int waiting(int from, int at, int to, int rides) {
        int refused = refusal(from, at, to, rides);
        if (refused != 0) return refused;
        if (!route.trace(from, at, to, rides)) return MISSING;
        return search.best[rides][to] - at - route.sumMoving();
    }

    public int latest(int from, int to, int by, int rides) {
        int refused = refusal(from, by, to, rides);
        if (refused != 0) return refused;
        // Who leaves later is never there earlier, so the minutes that are
        // early enough stand ahead of those that are not.
        int last = -1;
        for (int step = WIDEST_STEP; step > 0; step /= 2) {
            int later = last + step;
            if (later <= by && search.arrival(from, later, to, rides) <= by) last = later;
        }
        return last < 0 ? MISSING : last;
    }

    public int profile(int from, int to, int rides, int first, int last, int i) {
        if (i < -1) return NONE;
        int refused = refusal(from, first, to, rides);
        if (refused != 0) return refused;
        if (!isMinute(last) || last < first || last - first >= SPAN) return BAD;
        int count = 0;
        int now = search.arrival(from, first, to, rides);
        for (int t = first; t <= last; t++) {
            int next = search.arrival(from, t + 1, to, rides);
            if (now < next) {
                if (count == i) return t;
                count++;
            }
            now = next;
        }
        return i == -1 ? count : MISSING;
    }

    public int reached(int from, int at, int by, int rides) {
        if (!isStop(from)) return NONE;
        if (!isMinute(at) || !isMinute(by) || !isRides(rides)) return BAD;
        search.run(from, at, rides);
        int bits = 0;
        for (int s = 0; s < STOPS; s++) {
            if (search.best[rides][s] <= by) bits |= 1 << s;
        }
        return bits;
    }

    // ---- what would be lost

    public int worst(int from, int at, int to, int rides, int what) {
        if (what < 0 || what > 1) return NONE;
        int refused = refusal(from, at, to, rides);
        if (refused != 0) return refused;
        int whole = search.arrival(from, at, to, rides);
        int most = 0;
        int which = MISSING;
        for (int l = 0; l < net.lines; l++) {
            for (int t = 0; t < net.trips[l]; t++) {
                int later = search.arrivalWithoutTrip(from, at, to, rides, l, t) - whole;
                if (later > most) {
                    most = later;
                    which = 10 * l + t;
                }
            }
        }
        return lossAnswer(what, which, most);
    }

    public int cut(int from, int at, int to, int rides, int what) {
        if (what < 0 || what > 1 || from == to) return NONE;
        int refused = refusal(from, at, to, rides);
        if (refused != 0) return refused;
        int whole = search.arrival(from, at, to, rides);
        int most = 0;
        int which = MISSING;
        for (int s = 0; s < STOPS; s++) {
            if (s == from || s == to) continue;
            int later = search.arrivalWithoutStop(from, at, to, rides, s) - whole;
            if (later > most) {
                most = later;
                which = s;
            }
        }
        return lossAnswer(what, which, most);
    }

    private static int lossAnswer(int what, int which, int most) {
        if (which == MISSING) return MISSING;
        return what == 0 ? which : most;
    }

    // ---- at a stop

    public int board(int stop, int from, int i, int what) {
        if (!isStop(stop) || i < 0 || what < 0 || what > 2) return NONE;
        if (!isMinute(from)) return BAD;
        departures.gather(stop, from);
        if (i >= departures.count) return MISSING;
        return departures.tell(i, what);
    }

    public int missed(int stop) {
        if (!isStop(stop)) return NONE;
        return orMissing(departures.leastMiss(stop));
    }

    public int meet(int line, int other) {
        if (!net.hasLine(line) || !net.hasLine(other)) return NONE;
        int bits = 0;
        for (int i = 0; i < net.sizes[line]; i++) {
            int stop = net.stops[line][i];
            if (net.placeOf(other, stop) >= 0) bits |= 1 << stop;
        }
        return bits;
    }

    // ---- the paper

    public int spell(int from, int at, int to, int rides) {
        int refused = refusal(from, at, to, rides);
        if (refused != 0) return refused;
        if (!route.trace(from, at, to, rides)) return MISSING;
        route.spellInto(spelled);
        return spelled.length;
    }

    public int paper(int i) {
        if (i < 0 || i >= spelled.length) return NONE;
        return spelled.byteAt(i);
    }

    public int told(int what) {
        switch (what) {
            case 0: return net.lines;
            case 1: return net.countTrips();
            case 2: return net.countPaths();
            case 3: return net.countAllRunning();
            case 4: return net.countLoneStops();
            case 5: return tape.length;
            case 6: return spelled.length;
            default: return NONE;
        }
    }

    // ---- lists

    public int list(int list, int n) {
        if (!Lists.isList(list)) return NONE;
        if (n > Lists.ROOM) return BAD;
        if (n < 0) return BELOW;
        lists.begin(list, n);
        return 1;
    }

    public int set(int list, int i, int v) {
        if (!Lists.isList(list)) return NONE;
        if (!lists.isHeld(list)) return NOTHING;
        if (!lists.hasPlace(list, i)) return BEYOND;
        lists.rows[list][i] = v;
        return 1;
    }

    public int get(int list, int i) {
        if (!lists.hasPlace(list, i)) return NO_PLACE;
        return lists.rows[list][i];
    }

    public int lay(int list, int i, int from, int at, int rides) {
        int refused = listRefusal(list, from, at, rides);
        if (refused != 0) return refused;
        search.run(from, at, rides);
        int laid = 0;
        while (laid < STOPS && lists.hasPlaceBehind(list, i, laid)) {
            lists.rows[list][i + laid] = toldArrival(rides, laid);
            laid++;
        }
        return laid < STOPS ? BEYOND : laid;
    }

    public int judge(int list, int i, int from, int at, int rides) {
        int refused = listRefusal(list, from, at, rides);
        if (refused != 0) return refused;
        search.run(from, at, rides);
        for (int s = 0; s < STOPS; s++) {
            if (!lists.hasPlaceBehind(list, i, s)) return ENDED_BASE + s;
            if (lists.rows[list][i + s] != toldArrival(rides, s)) return s;
        }
        return MISSING;
    }

    private int listRefusal(int list, int from, int at, int rides) {
        if (!Lists.isList(list) || !isStop(from)) return NONE;
        if (!isMinute(at) || !isRides(rides)) return BAD;
        return lists.isHeld(list) ? 0 : NOTHING;
    }

    private int toldArrival(int rides, int stop) {
        int arrival = search.best[rides][stop];
        return arrival == NEVER ? -1 : arrival;
    }

    // ---- the image

    public int image() {
        kept.copyFrom(net);
        hasImage = true;
        return net.lines;
    }

    public int undo() {
        if (!hasImage) return STATE;
        net.copyFrom(kept);
        return net.lines;
    }

    // ---- what a number may be

    private static boolean isStop(int stop) {
        return stop >= 0 && stop < STOPS;
    }

    private static boolean isMinute(int minute) {
        return minute >= 0 && minute <= LAST_MINUTE;
    }

    private static boolean isRides(int rides) {
        return rides >= 0 && rides <= MOST_RIDES;
    }

    /** What a call with two stops, a minute and rides answers ahead of all else; 0: nothing. */
    private static int refusal(int from, int minute, int to, int rides) {
        if (!isStop(from) || !isStop(to)) return NONE;
        if (!isMinute(minute) || !isRides(rides)) return BAD;
        return 0;
    }

    private static int orMissing(int minute) {
        return minute == NEVER ? MISSING : minute;
    }

    /** What the kinds say of a trip and of a fare, each by the kind that it is under. */
    private static final class Kinds {
        private Kinds() {
        }

        static boolean goesAt(int kind, int minute) {
            boolean asTram = minute < 1300;
            boolean asNight = minute < 300 || minute >= 1200;
            boolean asExpress = asNight || minute % 60 == 0;
            switch (kind) {
                case TRAM: return asTram;
                case NIGHT: return asNight;
                case EXPRESS: return asExpress;
                case FERRY: return asTram && minute >= 400;
                case CABLE: return asExpress;
                default: return true;
            }
        }

        static int price(int kind, int stopsMore) {
            int bus = stopsMore + 2;
            int tram = bus + 1;
            int express = 2 * bus;
            switch (kind) {
                case TRAM: return tram;
                case EXPRESS: return express;
                case FERRY: return tram + 5;
                case CABLE: return express - 3;
                default: return bus;
            }
        }
    }

    /** Lines, trips with their delays, and footpaths: all that an image holds. */
    private static final class Net {
        private int lines;
        private final int[] kinds;
        private final int[] sizes;
        private final int[] trips;
        private final int[][] stops;
        /** A trip's row is told by rowOf. */
        private final int[][] minutes;
        /** 1 or 0; kept, since delays move the first minute but not whether a trip runs. */
        private final int[] running;
        /** 0 where there is no footpath. */
        private final int[][] paths;

        Net() {
            lines = 0;
            kinds = new int[LINES];
            sizes = new int[LINES];
            trips = new int[LINES];
            stops = new int[LINES][LONGEST];
            minutes = new int[LINES * TRIPS][LONGEST];
            running = new int[LINES * TRIPS];
            paths = new int[STOPS][STOPS];
        }

        void copyFrom(Net other) {
            lines = other.lines;
            System.arraycopy(other.kinds, 0, kinds, 0, LINES);
            System.arraycopy(other.sizes, 0, sizes, 0, LINES);
            System.arraycopy(other.trips, 0, trips, 0, LINES);
            System.arraycopy(other.running, 0, running, 0, LINES * TRIPS);
            for (int l = 0; l < LINES; l++) {
                System.arraycopy(other.stops[l], 0, stops[l], 0, LONGEST);
            }
            for (int row = 0; row < LINES * TRIPS; row++) {
                System.arraycopy(other.minutes[row], 0, minutes[row], 0, LONGEST);
            }
            for (int s = 0; s < STOPS; s++) {
                System.arraycopy(other.paths[s], 0, paths[s], 0, STOPS);
            }
        }

        boolean hasLine(int line) {
            return line >= 0 && line < lines;
        }

        boolean hasTrip(int line, int trip) {
            return hasLine(line) && trip >= 0 && trip < trips[line];
        }

        boolean hasPlace(int line, int i) {
            return hasLine(line) && i >= 0 && i < sizes[line];
        }

        private static int rowOf(int line, int trip) {
            return line * TRIPS + trip;
        }

        int minuteOf(int line, int trip, int i) {
            return minutes[rowOf(line, trip)][i];
        }

        boolean isRunning(int line, int trip) {
            return running[rowOf(line, trip)] == 1;
        }

        /** Which of a line's stops this is; -1: none. */
        int placeOf(int line, int stop) {
            for (int i = 0; i < sizes[line]; i++) {
                if (stops[line][i] == stop) return i;
            }
            return -1;
        }

        /** Begins a line without stops; there is room for it. */
        void beginLine(int kind) {
            kinds[lines] = kind;
            sizes[lines] = 0;
            trips[lines] = 0;
            lines++;
        }

        void addStop(int line, int stop) {
            stops[line][sizes[line]] = stop;
            sizes[line]++;
        }

        /** Begins a trip with its first minute, as it came; there is room for it. */
        void beginTrip(int line, int minute) {
            int row = rowOf(line, trips[line]);
            minutes[row][0] = minute;
            running[row] = Kinds.goesAt(kinds[line], minute) ? 1 : 0;
            trips[line]++;
        }

        void putMinute(int line, int trip, int i, int minute) {
            minutes[rowOf(line, trip)][i] = minute;
        }

        void putPath(int one, int other, int length) {
            paths[one][other] = length;
            paths[other][one] = length;
        }

        /** Whether the delay could be; nothing is moved if not. */
        boolean putDelay(int line, int trip, int i, int more) {
            int[] row = minutes[rowOf(line, trip)];
            int size = sizes[line];
            if (row[size - 1] + more > LAST_DELAYED) return false;
            for (int k = i; k < size; k++) row[k] += more;
            return true;
        }

        int countRunning(int line) {
            int count = 0;
            for (int t = 0; t < trips[line]; t++) {
                if (isRunning(line, t)) count++;
            }
            return count;
        }

        int countAllRunning() {
            int count = 0;
            for (int l = 0; l < lines; l++) count += countRunning(l);
            return count;
        }

        int countTrips() {
            int count = 0;
            for (int l = 0; l < lines; l++) count += trips[l];
            return count;
        }

        int countPaths() {
            int count = 0;
            for (int one = 0; one < STOPS; one++) {
                for (int other = one + 1; other < STOPS; other++) {
                    if (paths[one][other] != 0) count++;
                }
            }
            return count;
        }

        int countLoneStops() {
            int count = 0;
            for (int s = 0; s < STOPS; s++) {
                if (!isServed(s)) count++;
            }
            return count;
        }

        private boolean isServed(int stop) {
            for (int l = 0; l < lines; l++) {
                if (placeOf(l, stop) >= 0) return true;
            }
            return false;
        }
    }

    /** How early one is anywhere, by rounds: round r is what r rides at most can do. */
    private static final class Search {
        private final Net net;
        private final int[][] best;
        /** As best, but of journeys that end with a ride: only these may walk on. */
        private final int[][] ridden;
        private int lostLine;
        private int lostTrip;
        private int shutStop;

        Search(Net net) {
            this.net = net;
            best = new int[MOST_RIDES + 1][STOPS];
            ridden = new int[MOST_RIDES + 1][STOPS];
            loseNothing();
        }

        private void loseNothing() {
            lostLine = -1;
            lostTrip = -1;
            shutStop = -1;
        }

        int arrival(int from, int at, int to, int rides) {
            run(from, at, rides);
            return best[rides][to];
        }

        int arrivalWithoutTrip(int from, int at, int to, int rides, int line, int trip) {
            lostLine = line;
            lostTrip = trip;
            run(from, at, rides);
            loseNothing();
            return best[rides][to];
        }

        int arrivalWithoutStop(int from, int at, int to, int rides, int stop) {
            shutStop = stop;
            run(from, at, rides);
            loseNothing();
            return best[rides][to];
        }

        void run(int from, int at, int rides) {
            for (int r = 0; r <= rides; r++) {
                Arrays.fill(ridden[r], NEVER);
                if (r > 0) rideAll(best[r - 1], ridden[r]);
                arriveAll(from, at, ridden[r], best[r]);
            }
        }

        private void rideAll(int[] ahead, int[] ends) {
            for (int l = 0; l < net.lines; l++) {
                for (int t = 0; t < net.trips[l]; t++) {
                    boolean lost = l == lostLine && t == lostTrip;
                    if (!lost && net.isRunning(l, t)) rideOne(l, t, ahead, ends);
                }
            }
        }

        private void rideOne(int line, int trip, int[] ahead, int[] ends) {
            boolean on = false;
            for (int i = 0; i < net.sizes[line]; i++) {
                int stop = net.stops[line][i];
                int minute = net.minuteOf(line, trip, i);
                if (on && stop != shutStop && minute < ends[stop]) ends[stop] = minute;
                if (ahead[stop] <= minute) on = true;
            }
        }

        private void arriveAll(int from, int at, int[] ends, int[] arrivals) {
            for (int s = 0; s < STOPS; s++) {
                arrivals[s] = s == shutStop ? NEVER : arriveAt(s, from, at, ends);
            }
        }

        private int arriveAt(int stop, int from, int at, int[] ends) {
            if (stop == from) return at;
            int least = ends[stop];
            for (int s = 0; s < STOPS; s++) {
                int path = net.paths[s][stop];
                int begin = s == from ? at : ends[s];
                if (path != 0 && begin != NEVER) least = Math.min(least, begin + path);
            }
            return least;
        }
    }

    /** The journey that the document singles out among those that are earliest. */
    private static final class Route {
        /** What a leg tells: the first six as leg() numbers them. */
        private static final int LINE = 0, TRIP = 1, FROM = 2, TO = 3, BEGINS = 4, ENDS = 5, PRICE = 6;
        private static final int TOLD = 6, WIDTH = 7;
        /** A walk, then six times a ride and a walk. */
        private static final int MOST_LEGS = 2 * MOST_RIDES + 1;

        private final Net net;
        private final Search search;
        /** The last leg first, as they are found. */
        private final int[][] backward;
        private int count;
        private int rideLine;
        private int rideTrip;
        private int rideFrom;

        Route(Net net, Search search) {
            this.net = net;
            this.search = search;
            backward = new int[MOST_LEGS][WIDTH];
            count = 0;
            rideLine = 0;
            rideTrip = 0;
            rideFrom = 0;
        }

        /** Whether there is a journey; its legs are held then. */
        boolean trace(int from, int at, int to, int rides) {
            count = 0;
            search.run(from, at, rides);
            if (search.best[rides][to] == NEVER) return false;
            int stop = to;
            for (int r = rides; r >= 0 && stop != from; r--) {
                int end = search.best[r][stop];
                if (findRide(r, stop, end)) stop = addRide(stop);
                else stop = addWalk(r, from, at, stop);
            }
            return true;
        }

        /** Looks for the ride of round r to a stop that ends just then. */
        private boolean findRide(int r, int stop, int end) {
            if (r < 1) return false;
            int[] ahead = search.best[r - 1];
            for (int l = 0; l < net.lines; l++) {
                int place = net.placeOf(l, stop);
                if (place < 1) continue;
                for (int t = 0; t < net.trips[l]; t++) {
                    if (!net.isRunning(l, t) || net.minuteOf(l, t, place) != end) continue;
                    if (findBeginning(l, t, place, ahead)) return true;
                }
            }
            return false;
        }

        private boolean findBeginning(int line, int trip, int place, int[] ahead) {
            for (int i = place - 1; i >= 0; i--) {
                if (ahead[net.stops[line][i]] > net.minuteOf(line, trip, i)) continue;
                rideLine = line;
                rideTrip = trip;
                rideFrom = i;
                return true;
            }
            return false;
        }

        /** Adds the ride that was found; answers the stop where it begins. */
        private int addRide(int stop) {
            int place = net.placeOf(rideLine, stop);
            if (count >= MOST_LEGS || place < 0) return stop;
            int[] leg = backward[count];
            count++;
            leg[LINE] = rideLine;
            leg[TRIP] = rideTrip;
            leg[FROM] = net.stops[rideLine][rideFrom];
            leg[TO] = stop;
            leg[BEGINS] = net.minuteOf(rideLine, rideTrip, rideFrom);
            leg[ENDS] = net.minuteOf(rideLine, rideTrip, place);
            leg[PRICE] = Kinds.price(net.kinds[rideLine], place - rideFrom);
            return leg[FROM];
        }

        /** Adds the walk to a stop, and the ride ahead of it; answers the stop where these begin. */
        private int addWalk(int r, int from, int at, int stop) {
            int end = search.best[r][stop];
            for (int s = 0; s < STOPS; s++) {
                int path = net.paths[s][stop];
                if (path == 0) continue;
                if (s == from && at + path == end) {
                    putWalk(s, stop, at, end);
                    return s;
                }
                if (s != from && findRide(r, s, end - path)) {
                    putWalk(s, stop, end - path, end);
                    return addRide(s);
                }
            }
            return stop;
        }

        private void putWalk(int one, int other, int begins, int ends) {
            if (count >= MOST_LEGS) return;
            int[] leg = backward[count];
            count++;
            leg[LINE] = MISSING;
            leg[TRIP] = MISSING;
            leg[FROM] = one;
            leg[TO] = other;
            leg[BEGINS] = begins;
            leg[ENDS] = ends;
            leg[PRICE] = 0;
        }

        /** Of the i-th leg, counted from the first; there is one. */
        int tell(int i, int what) {
            return backward[count - 1 - i][what];
        }

        int sumFares() {
            int sum = 0;
            for (int i = 0; i < count; i++) sum += backward[i][PRICE];
            return sum;
        }

        int sumMoving() {
            int sum = 0;
            for (int i = 0; i < count; i++) sum += backward[i][ENDS] - backward[i][BEGINS];
            return sum;
        }

        void spellInto(Text text) {
            text.length = 0;
            for (int i = count - 1; i >= 0; i--) {
                int[] leg = backward[i];
                if (leg[LINE] == MISSING) {
                    text.put('W');
                } else {
                    text.put('L');
                    text.putNumber(leg[LINE]);
                    text.put('.');
                    text.putNumber(leg[TRIP]);
                }
                text.put(':');
                text.putNumber(leg[FROM]);
                text.put('>');
                text.putNumber(leg[TO]);
                if (i > 0) text.put(' ');
            }
        }
    }

    /** Who goes on from a stop, and who comes to it too late for that. */
    private static final class Board {
        private final Net net;
        /** Minute, line and trip in one number, so that it sorts as the board does. */
        private final int[] keys;
        private int count;

        Board(Net net) {
            this.net = net;
            keys = new int[LINES * TRIPS];
            count = 0;
        }

        void gather(int stop, int from) {
            count = 0;
            for (int l = 0; l < net.lines; l++) {
                int place = net.placeOf(l, stop);
                if (!goesOn(l, place)) continue;
                for (int t = 0; t < net.trips[l]; t++) {
                    int minute = net.minuteOf(l, t, place);
                    if (net.isRunning(l, t) && minute >= from) insert(minute * 100 + l * 10 + t);
                }
            }
        }

        private boolean goesOn(int line, int place) {
            return place >= 0 && place < net.sizes[line] - 1;
        }

        private void insert(int key) {
            if (count >= keys.length) return;
            int i = count;
            while (i > 0 && keys[i - 1] > key) {
                keys[i] = keys[i - 1];
                i--;
            }
            keys[i] = key;
            count++;
        }

        int tell(int i, int what) {
            int key = keys[i];
            switch (what) {
                case 0: return key / 10 % 10;
                case 1: return key % 10;
                default: return key / 100;
            }
        }

        /** By how few minutes a trip that comes misses one that goes on; NEVER: none does. */
        int leastMiss(int stop) {
            int least = NEVER;
            for (int l = 0; l < net.lines; l++) {
                int place = net.placeOf(l, stop);
                if (place < 1) continue;
                for (int t = 0; t < net.trips[l]; t++) {
                    if (!net.isRunning(l, t)) continue;
                    least = Math.min(least, leastMissOf(l, net.minuteOf(l, t, place), stop));
                }
            }
            return least;
        }

        private int leastMissOf(int line, int comes, int stop) {
            int least = NEVER;
            for (int l = 0; l < net.lines; l++) {
                int place = net.placeOf(l, stop);
                if (l == line || !goesOn(l, place)) continue;
                for (int t = 0; t < net.trips[l]; t++) {
                    int goes = net.minuteOf(l, t, place);
                    if (net.isRunning(l, t) && goes < comes) least = Math.min(least, comes - goes);
                }
            }
            return least;
        }
    }

    /** A row of bytes with a length: the tape, the paper. */
    private static final class Text {
        private final int[] bytes;
        private int length;

        Text(int room) {
            bytes = new int[Math.max(0, room)];
            length = 0;
        }

        void put(int letter) {
            if (length >= bytes.length) return;
            bytes[length] = letter;
            length++;
        }

        /** Of one or two figures: no number on the paper has more. */
        void putNumber(int number) {
            if (number >= 10) put('0' + number / 10);
            put('0' + number % 10);
        }

        /** 0, which no byte is, where there is none. */
        int byteAt(int i) {
            return i >= 0 && i < length ? bytes[i] : 0;
        }
    }

    /** Reads the tape from left to right, and puts each part into the timetable at once. */
    private static final class Reader {
        private final Net net;
        private final Text tape;
        private int at;
        private int partBegin;
        private int number;
        private int numberBegin;
        private int fault;

        Reader(Net net, Text tape) {
            this.net = net;
            this.tape = tape;
            at = 0;
            partBegin = 0;
            number = 0;
            numberBegin = 0;
            fault = 0;
        }

        /** How many parts, or -100 less the fault: what was put in by then is for the caller to undo. */
        int readTable() {
            at = 0;
            for (int parts = 1; parts <= TAPE_ROOM; parts++) {
                if (!readPart()) return FAULT_BASE - fault;
                if (at >= tape.length) return parts;
                if (!takeByte(';')) return FAULT_BASE - fault;
            }
            return FAULT_BASE - at;
        }

        private boolean failAt(int place) {
            fault = place;
            return false;
        }

        private boolean takeByte(int letter) {
            if (tape.byteAt(at) != letter) return failAt(at);
            at++;
            return true;
        }

        private static boolean isFigure(int letter) {
            return letter >= '0' && letter <= '9';
        }

        private boolean takeNumber(int figures, int least, int most) {
            numberBegin = at;
            number = 0;
            for (int k = 0; k < figures && isFigure(tape.byteAt(at)); k++) {
                number = number * 10 + tape.byteAt(at) - '0';
                at++;
            }
            if (at == numberBegin) return failAt(at);
            if (number < least || number > most) return failAt(numberBegin);
            return true;
        }

        private boolean readPart() {
            partBegin = at;
            int letter = tape.byteAt(at);
            switch (letter) {
                case 'L': at++; return readLine();
                case 'T': at++; return readTrip();
                case 'F': at++; return readPath();
                case 'D': at++; return readDelay();
                default: return failAt(at);
            }
        }

        private boolean readLine() {
            if (net.lines >= LINES) return failAt(partBegin);
            if (!takeNumber(1, BUS, CABLE)) return false;
            int line = net.lines;
            net.beginLine(number);
            if (!takeByte(':')) return false;
            for (int i = 0; i < LONGEST; i++) {
                if (i >= SHORTEST && isPartEnd()) return true;
                if (i > 0 && !takeByte('>')) return false;
                if (!takeStop()) return false;
                if (net.placeOf(line, number) >= 0) return failAt(numberBegin);
                net.addStop(line, number);
            }
            return true;
        }

        private boolean isPartEnd() {
            return at >= tape.length || tape.byteAt(at) == ';';
        }

        private boolean takeStop() {
            return takeNumber(2, 0, STOPS - 1);
        }

        private boolean readTrip() {
            if (!takeNumber(1, 0, net.lines - 1)) return false;
            int line = number;
            int trip = net.trips[line];
            if (trip >= TRIPS) return failAt(partBegin);
            if (!takeByte(':') || !takeNumber(4, 0, LAST_MINUTE)) return false;
            int minute = number;
            net.beginTrip(line, minute);
            for (int i = 1; i < net.sizes[line]; i++) {
                if (!takeByte('+') || !takeNumber(3, 1, LAST_MINUTE - minute)) return false;
                minute += number;
                net.putMinute(line, trip, i, minute);
            }
            return true;
        }

        private boolean readPath() {
            if (!takeStop()) return false;
            int one = number;
            if (!takeByte('-') || !takeStop()) return false;
            int other = number;
            if (other == one) return failAt(numberBegin);
            if (!takeByte('=') || !takeNumber(2, 1, MOST_WALK)) return false;
            net.putPath(one, other, number);
            return true;
        }

        private boolean readDelay() {
            if (!takeNumber(1, 0, net.lines - 1)) return false;
            int line = number;
            if (!takeByte('.') || !takeNumber(1, 0, net.trips[line] - 1)) return false;
            int trip = number;
            if (!takeByte('@') || !takeNumber(1, 0, net.sizes[line] - 1)) return false;
            int place = number;
            if (!takeByte('+') || !takeNumber(2, 1, MOST_DELAY)) return false;
            return net.putDelay(line, trip, place, number) || failAt(partBegin);
        }
    }

    /** Four rows of numbers; one that holds nothing is not the same as one of no places. */
    private static final class Lists {
        private static final int COUNT = 4, ROOM = 20, UNHELD = -1;

        private final int[][] rows;
        private final int[] sizes;

        Lists() {
            rows = new int[COUNT][ROOM];
            sizes = new int[COUNT];
            Arrays.fill(sizes, UNHELD);
        }

        static boolean isList(int list) {
            return list >= 0 && list < COUNT;
        }

        boolean isHeld(int list) {
            return isList(list) && sizes[list] != UNHELD;
        }

        boolean hasPlace(int list, int i) {
            return isList(list) && i >= 0 && i < sizes[list];
        }

        /** Whether place i exists and the one so many behind it, too; looked at without a sum that wraps. */
        boolean hasPlaceBehind(int list, int i, int more) {
            return hasPlace(list, i) && more < sizes[list] - i;
        }

        void begin(int list, int n) {
            Arrays.fill(rows[list], 0);
            sizes[list] = n;
        }
    }
}
