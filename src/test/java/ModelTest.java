import java.util.List;
import java.util.Random;

/**
 * Runs of random calls, held against the model. Some runs have more calls than the document promises
 * answers for: to fill a timetable takes many, and the class keeps no count of its calls.
 */
public final class ModelTest {
    private static Random random;
    private static TripRounds x;
    private static Model model;
    private static String run;

    /** Every other run: few stops, and minutes by fives around one at which kinds begin or cease to run, so that many are the same. */
    private static boolean dense;
    private static int around;

    public static void main(String[] args) {
        int runs = args.length > 0 ? Integer.parseInt(args[0]) : 400;
        for (int seed = 0; seed < runs; seed++) oneRun(seed);
        for (int seed = 0; seed < runs; seed++) denseNet(seed);
        Due.end();
    }

    private static void oneRun(int seed) {
        random = new Random(seed);
        run = "run " + seed;
        dense = seed % 2 == 1;
        around = new int[] {20, 300, 400, 1200, 1300, 240}[seed / 2 % 6];
        x = new TripRounds();
        model = new Model();
        Model image = null;
        int size = 1 + seed % 7;
        for (int i = 0; i < 6 * size; i++) tell(text(size));
        for (int i = 0; i < 40; i++) {
            int what = random.nextInt(12);
            if (what == 0) tell(text(size));
            if (what == 1) tell(spoil(text(size)));
            if (what == 2) delay();
            if (what == 3) drop();
            if (what == 4) walk();
            if (what == 5) {
                image = model.copy();
                Due.due(run + " image", x.image(), model.lines.size());
            }
            if (what == 6) {
                Due.due(run + " undo", x.undo(), image == null ? -3 : image.lines.size());
                if (image != null) model = image.copy();
            }
            if (what > 6) ask(size);
        }
        holds();
        small();
    }

    private static int stop() {
        return random.nextInt(dense && random.nextInt(12) != 0 ? 5 : 12);
    }

    private static int fives(int most) {
        return 5 * (1 + random.nextInt(most));
    }

    private static String row(int stops) {
        StringBuilder text = new StringBuilder();
        int had = 0;
        for (int i = 0; i < stops; i++) {
            if (i > 0) text.append('>');
            if (random.nextInt(8) == 0) text.append('0');
            int stop = stop();
            for (int k = 0; k < 20 && dense && (had >> stop & 1) == 1; k++) stop = stop();
            had |= 1 << stop;
            text.append(stop);
        }
        return text.toString();
    }

    /** A part that is often right: a line's, a trip's, a footpath's, a delay's. */
    private static String part(int size) {
        int what = random.nextInt(8);
        if (what < 2) return "L" + random.nextInt(random.nextInt(9) == 0 ? 8 : 6) + ":" + row(2 + random.nextInt(4));
        int line = random.nextInt(model.lines.size() + 1);
        if (what < 6) {
            int more = line < model.lines.size() ? model.lines.get(line).stops.length : 3;
            int begin = random.nextInt(6) == 0 ? random.nextInt(2010) : 60 * random.nextInt(5) + random.nextInt(40);
            if (dense) begin = around - 25 + fives(8);
            StringBuilder text = new StringBuilder("T" + line + ":" + begin);
            for (int i = 1; i < more; i++) text.append('+').append(dense ? fives(2) : 1 + random.nextInt(9));
            return text.toString();
        }
        if (what == 6 && dense) return "F" + stop() + "-" + stop() + "=" + fives(4);
        if (what == 6) return "F" + stop() + "-" + stop() + "=" + (1 + random.nextInt(random.nextInt(4) == 0 ? 62 : 15));
        int more = dense ? fives(2) : random.nextInt(20);
        return "D" + line + "." + random.nextInt(size + 1) + "@" + random.nextInt(4) + "+" + more;
    }

    private static String text(int size) {
        StringBuilder text = new StringBuilder(part(size));
        for (int i = random.nextInt(3); i > 0; i--) text.append(';').append(part(size));
        return text.toString();
    }

    private static String spoil(String text) {
        String signs = "0123456789:;>+-=.@LTFD x";
        StringBuilder spoiled = new StringBuilder(text);
        int place = random.nextInt(text.length());
        char sign = signs.charAt(random.nextInt(signs.length()));
        int how = random.nextInt(4);
        if (how == 0) spoiled.setLength(place);
        if (how == 1) spoiled.setCharAt(place, sign);
        if (how == 2) spoiled.insert(place, sign);
        if (how == 3) spoiled.deleteCharAt(place);
        return spoiled.toString();
    }

    private static void tell(String text) {
        if (text.length() > 80) return;
        int due = model.table(text);
        Due.due(run + " table of " + text, Due.table(x, text), due);
    }

    private static void delay() {
        if (model.lines.isEmpty()) return;
        int l = random.nextInt(model.lines.size());
        Model.Line line = model.lines.get(l);
        if (line.trips.isEmpty()) return;
        int t = random.nextInt(line.trips.size());
        int i = random.nextInt(line.stops.length);
        int more = dense ? fives(3) : 1 + random.nextInt(99);
        boolean can = model.delay(line.trips.get(t), i, more);
        Due.due(run + " delay", x.delay(l, t, i, more), can ? line.trips.get(t).minutes[i] : -4);
    }

    private static void drop() {
        if (model.lines.isEmpty()) return;
        int l = random.nextInt(model.lines.size());
        List<Model.Trip> trips = model.lines.get(l).trips;
        int due = trips.size() - 1;
        if (due >= 0) trips.remove(due);
        model.forget();
        Due.due(run + " drop", x.drop(l), due < 0 ? -3 : due);
    }

    private static void walk() {
        int one = stop();
        int other = stop();
        int minutes = dense ? fives(5) - 5 : random.nextInt(25);
        int was = one == other ? -1 : model.foot[one][other] == 0 ? -5 : model.foot[one][other];
        Due.due(run + " walk", x.walk(one, other, minutes), was);
        if (one == other) return;
        model.foot[one][other] = minutes;
        model.foot[other][one] = minutes;
        model.forget();
    }

    private static int minute() {
        if (dense) return around - 25 + fives(10);
        return random.nextInt(10) == 0 ? random.nextInt(2000) : random.nextInt(300);
    }

    private static int orMissing(int minute) {
        return minute == Model.NEVER ? -5 : minute;
    }

    private static void ask(int size) {
        int from = stop();
        int to = stop();
        int at = minute();
        int r = random.nextInt(7);
        String call = run + " from " + from + " at " + at + " to " + to + " by " + r + " ";
        Due.due(call + "earliest", x.earliest(from, at, to, r), orMissing(model.earliest(from, at, to, r)));
        int bits = 0;
        for (int k = 0; k < 7; k++) {
            int ahead = k == 0 ? Model.NEVER : model.earliest(from, at, to, k - 1);
            if (model.earliest(from, at, to, k) < ahead) bits += 1 << k;
        }
        Due.due(call + "worth", x.worth(from, at, to), bits);
        int reached = 0;
        int by = minute();
        for (int s = 0; s < 12; s++) if (model.earliest(from, at, s, r) <= by) reached += 1 << s;
        Due.due(call + "reached", x.reached(from, at, by, r), reached);
        journey(call, from, at, to, r);
        losses(call, from, at, to, r);
        spans(call, from, at, to, r);
        lists(call, from, at, r);
        atStop(call, to, at);
    }

    private static void journey(String call, int from, int at, int to, int r) {
        List<Model.Leg> legs = model.journey(from, at, to, r);
        String paper = Due.paper(x);
        if (legs == null) {
            Due.due(call + "legs", x.legs(from, at, to, r), -5);
            Due.due(call + "fare", x.fare(from, at, to, r), -5);
            Due.due(call + "waiting", x.waiting(from, at, to, r), -5);
            Due.due(call + "spell", x.spell(from, at, to, r), -5);
            Due.due(call + "leg", x.leg(from, at, to, r, 0, 0), -1);
            Due.due(call + "paper", Due.paper(x), paper);
            return;
        }
        Due.due(call + "legs", x.legs(from, at, to, r), legs.size());
        int fare = 0;
        int waiting = model.earliest(from, at, to, r) - at;
        for (int i = 0; i < legs.size(); i++) {
            Model.Leg g = legs.get(i);
            int[] due = {g.line, g.trip, g.from, g.to, g.begins, g.ends};
            for (int k = 0; k < 6; k++) Due.due(call + "leg " + i + " what " + k, x.leg(from, at, to, r, i, k), due[k]);
            if (g.line >= 0) fare += Model.fare(model.lines.get(g.line).kind, g.stopsMore);
            waiting -= g.ends - g.begins;
        }
        Due.due(call + "leg", x.leg(from, at, to, r, legs.size(), 2), -1);
        Due.due(call + "fare", x.fare(from, at, to, r), fare);
        Due.due(call + "waiting", x.waiting(from, at, to, r), waiting);
        Due.due(call + "spell", x.spell(from, at, to, r), Model.spell(legs).length());
        Due.due(call + "paper", Due.paper(x), Model.spell(legs));
        Due.due(call + "told", x.told(6), Model.spell(legs).length());
    }

    private static void losses(String call, int from, int at, int to, int r) {
        int[] worst = model.worst(from, at, to, r);
        int[] cut = from == to ? new int[] {-1, -1} : model.cut(from, at, to, r);
        for (int what = 0; what < 2; what++) {
            Due.due(call + "worst", x.worst(from, at, to, r, what), worst[what]);
            Due.due(call + "cut", x.cut(from, at, to, r, what), cut[what]);
        }
    }

    private static void spans(String call, int from, int at, int to, int r) {
        if (random.nextInt(4) != 0) return;
        int by = random.nextInt(2) == 0 ? minute() : Math.min(1999, model.earliest(from, at, to, r));
        Due.due(call + "latest by " + by, x.latest(from, to, by, r), model.latest(from, to, by, r));
        int first = Math.max(0, at - random.nextInt(30));
        int last = Math.min(1999, first + random.nextInt(100));
        List<Integer> all = model.profile(from, to, r, first, last);
        Due.due(call + "profile", x.profile(from, to, r, first, last, -1), all.size());
        for (int i = 0; i <= all.size(); i++) {
            Due.due(call + "profile", x.profile(from, to, r, first, last, i), i < all.size() ? all.get(i) : -5);
        }
    }

    private static void lists(String call, int from, int at, int r) {
        int list = random.nextInt(4);
        int n = random.nextInt(21);
        int i = random.nextInt(23) - 1;
        int laid = i < 0 ? 0 : Math.max(0, Math.min(12, n - i));
        x.list(list, n);
        Due.due(call + "lay", x.lay(list, i, from, at, r), laid == 12 ? 12 : -13);
        for (int k = 0; k < n; k++) {
            boolean told = laid > 0 && k >= i && k < i + laid;
            int due = told ? model.earliest(from, at, k - i, r) : 0;
            Due.due(call + "get", x.get(list, k), due == Model.NEVER ? -1 : due);
        }
        Due.due(call + "judge", x.judge(list, i, from, at, r), laid == 12 ? -5 : 100 + laid);
        if (laid == 0) return;
        int wrong = random.nextInt(laid);
        x.set(list, i + wrong, -7);
        Due.due(call + "judge", x.judge(list, i, from, at, r), wrong);
    }

    private static void atStop(String call, int stop, int from) {
        List<int[]> board = model.board(stop, from);
        for (int i = 0; i < board.size(); i++) {
            for (int k = 0; k < 3; k++) Due.due(call + "board", x.board(stop, from, i, k), board.get(i)[k]);
        }
        Due.due(call + "board", x.board(stop, from, board.size(), 0), -5);
        Due.due(call + "missed", x.missed(stop), model.missed(stop));
    }

    /** A timetable as full as it can be, with journeys of many rides: all of them from some stops. */
    private static void denseNet(int seed) {
        random = new Random(seed);
        run = "net " + seed;
        x = new TripRounds();
        model = new Model();
        boolean byFives = seed % 2 == 1;
        int stops = 5 + seed / 2 % 8;
        fill(stops, byFives);
        boolean late = random.nextInt(8) == 0;
        if (late) delayAll();
        for (int k = 0; k < 3; k++) {
            int from = random.nextInt(stops);
            int at = (late ? 1970 : 0) + (byFives ? fives(6) - 5 : random.nextInt(30));
            for (int to = 0; to < 12; to++) {
                for (int r = 0; r <= 6; r++) allOfOne(from, at, to, r);
            }
        }
    }

    private static void fill(int stops, boolean byFives) {
        boolean chain = random.nextInt(3) == 0;
        for (int l = 0; l < 8; l++) {
            StringBuilder text = new StringBuilder("L" + (random.nextInt(3) == 0 ? random.nextInt(6) : 0) + ":");
            int had = 0;
            int many = 2 + random.nextInt(3);
            for (int i = 0; i < many; i++) {
                int stop = chain && i < 2 ? (l + i) % stops : random.nextInt(stops);
                while ((had >> stop & 1) == 1) stop = random.nextInt(stops);
                had |= 1 << stop;
                text.append(i > 0 ? ">" : "").append(stop);
            }
            tell(text.toString());
            for (int t = 2 + random.nextInt(5); t > 0; t--) tell(trip(l, chain ? 10 * l : 0, byFives));
        }
        for (int f = random.nextInt(6); f > 0; f--) {
            int one = random.nextInt(stops);
            int other = random.nextInt(stops);
            if (one != other) tell("F" + one + "-" + other + "=" + (byFives ? fives(3) : 1 + random.nextInt(15)));
        }
    }

    /** Most begin below 300 and run therefore, whatever their kind. */
    private static String trip(int line, int least, boolean byFives) {
        int begin = least + (random.nextInt(12) == 0 ? 280 : 0) + (byFives ? fives(20) - 5 : random.nextInt(100));
        StringBuilder text = new StringBuilder("T" + line + ":" + begin);
        for (int i = 1; i < model.lines.get(line).stops.length; i++) {
            text.append('+').append(byFives ? fives(3) : 1 + random.nextInt(15));
        }
        return text.toString();
    }

    /** By so much that most go on above 1999. */
    private static void delayAll() {
        for (int l = 0; l < model.lines.size(); l++) {
            List<Model.Trip> trips = model.lines.get(l).trips;
            for (int t = 0; t < trips.size(); t++) {
                for (int n = 0; n < 20; n++) {
                    model.delay(trips.get(t), 0, 99);
                    Due.due(run + " delay", x.delay(l, t, 0, 99), trips.get(t).minutes[0]);
                }
            }
        }
    }

    private static void allOfOne(int from, int at, int to, int r) {
        String call = run + " from " + from + " at " + at + " to " + to + " by " + r + " ";
        Due.due(call + "earliest", x.earliest(from, at, to, r), orMissing(model.earliest(from, at, to, r)));
        journey(call, from, at, to, r);
        if (random.nextInt(24) == 0) losses(call, from, at, to, r);
        if (random.nextInt(150) == 0) spans(call, from, at, to, r);
    }

    /** All that the timetable holds. */
    private static void holds() {
        Due.due(run + " lines", x.told(0), model.lines.size());
        int trips = 0;
        int running = 0;
        int served = 0;
        for (int l = 0; l < model.lines.size(); l++) {
            Model.Line line = model.lines.get(l);
            Due.due(run + " kind", x.line(l, 0), line.kind);
            Due.due(run + " size", x.line(l, 1), line.stops.length);
            Due.due(run + " trips", x.line(l, 2), line.trips.size());
            int bits = 0;
            for (int i = 0; i < line.stops.length; i++) {
                bits |= 1 << line.stops[i];
                Due.due(run + " stop", x.stop(l, i), line.stops[i]);
            }
            served |= bits;
            Due.due(run + " meet", x.meet(l, l), bits);
            int runs = 0;
            for (int t = 0; t < line.trips.size(); t++) {
                Model.Trip trip = line.trips.get(t);
                Due.due(run + " runs", x.runs(l, t), trip.runs ? 1 : 0);
                if (trip.runs) runs++;
                for (int i = 0; i < line.stops.length; i++) Due.due(run + " minute", x.minute(l, t, i), trip.minutes[i]);
            }
            Due.due(run + " running", x.line(l, 3), runs);
            trips += line.trips.size();
            running += runs;
        }
        Due.due(run + " told(1)", x.told(1), trips);
        Due.due(run + " told(3)", x.told(3), running);
        Due.due(run + " told(4)", x.told(4), 12 - Integer.bitCount(served));
        int paths = 0;
        for (int one = 0; one < 12; one++) {
            for (int other = 0; other < 12; other++) {
                if (one != other) Due.due(run + " foot", x.foot(one, other), model.foot[one][other] == 0 ? -5 : model.foot[one][other]);
                if (one < other && model.foot[one][other] != 0) paths++;
            }
        }
        Due.due(run + " told(2)", x.told(2), paths);
    }

    /** Every journey followed, where there are few. */
    private static void small() {
        int trips = 0;
        for (Model.Line line : model.lines) trips += line.trips.size();
        if (trips > 7) return;
        for (int i = 0; i < 12; i++) {
            int from = stop();
            int to = stop();
            int at = minute();
            int r = random.nextInt(4);
            int due = orMissing(model.earliestByAll(from, at, to, r, false));
            Due.due(run + " earliest by all", x.earliest(from, at, to, r), due);
        }
    }
}
