import java.util.ArrayList;
import java.util.List;

/** A second reading of the document, slow and plain, to hold the class against. */
final class Model {
    static final int NEVER = 10000;

    static final class Trip {
        boolean runs;
        int[] minutes;
    }

    static final class Line {
        int kind;
        int[] stops;
        List<Trip> trips = new ArrayList<>();
    }

    static final class Leg {
        int line = -5, trip = -5, from, to, begins, ends, stopsMore;
    }

    List<Line> lines = new ArrayList<>();
    int[][] foot = new int[12][12];
    int closed = -1;

    Model copy() {
        Model m = new Model();
        for (Line l : lines) {
            Line c = new Line();
            c.kind = l.kind;
            c.stops = l.stops.clone();
            for (Trip t : l.trips) {
                Trip u = new Trip();
                u.runs = t.runs;
                u.minutes = t.minutes.clone();
                c.trips.add(u);
            }
            m.lines.add(c);
        }
        for (int i = 0; i < 12; i++) m.foot[i] = foot[i].clone();
        return m;
    }

    static boolean runs(int kind, int m) {
        boolean night = m < 300 || m >= 1200;
        boolean[] due = {true, m < 1300, night, night || m % 60 == 0, m < 1300 && m >= 400, night || m % 60 == 0};
        return due[kind];
    }

    static int fare(int kind, int n) {
        int[] due = {n + 2, n + 3, n + 2, 2 * n + 4, n + 8, 2 * n + 1};
        return due[kind];
    }

    /** How early a journey is at a stop whose last leg is a ride, by r rides at most. */
    private int rideEnd(int from, int at, int to, int r) {
        if (r == 0 || to == closed) return NEVER;
        int[] ahead = earliestAll(from, at, r - 1);
        int least = NEVER;
        for (Line l : lines) {
            for (Trip t : l.trips) {
                if (!t.runs) continue;
                for (int i = 0; i < l.stops.length; i++) {
                    for (int j = i + 1; j < l.stops.length; j++) {
                        if (l.stops[j] != to || ahead[l.stops[i]] > t.minutes[i]) continue;
                        least = Math.min(least, t.minutes[j]);
                    }
                }
            }
        }
        return least;
    }

    private int keptFrom = -1, keptAt = -1;
    private int[][] kept = new int[7][];

    void forget() {
        keptFrom = -1;
    }

    int[] earliestAll(int from, int at, int r) {
        if (keptFrom != from || keptAt != at) {
            kept = new int[7][];
            keptFrom = from;
            keptAt = at;
        }
        if (kept[r] != null) return kept[r];
        int[] ends = new int[12];
        for (int s = 0; s < 12; s++) ends[s] = rideEnd(from, at, s, r);
        int[] all = ends.clone();
        for (int s = 0; s < 12; s++) {
            for (int u = 0; u < 12; u++) {
                if (foot[u][s] == 0 || u == closed || s == closed) continue;
                if (u == from) all[s] = Math.min(all[s], at + foot[u][s]);
                if (ends[u] < NEVER) all[s] = Math.min(all[s], ends[u] + foot[u][s]);
            }
        }
        all[from] = at;
        kept[r] = all;
        return all;
    }

    int earliest(int from, int at, int to, int r) {
        return earliestAll(from, at, r)[to];
    }

    /** Follows every journey, leg by leg: only for small timetables. */
    int earliestByAll(int stop, int now, int to, int r, boolean walked) {
        int least = stop == to ? now : NEVER;
        if (!walked) {
            for (int s = 0; s < 12; s++) {
                if (foot[stop][s] != 0) least = Math.min(least, earliestByAll(s, now + foot[stop][s], to, r, true));
            }
        }
        if (r == 0) return least;
        for (Line l : lines) {
            for (Trip t : l.trips) {
                for (int i = 0; t.runs && i < l.stops.length; i++) {
                    if (l.stops[i] != stop || t.minutes[i] < now) continue;
                    for (int j = i + 1; j < l.stops.length; j++) {
                        least = Math.min(least, earliestByAll(l.stops[j], t.minutes[j], to, r - 1, false));
                    }
                }
            }
        }
        return least;
    }

    private Leg ride(int from, int at, int to, int end, int r) {
        if (r == 0) return null;
        for (int l = 0; l < lines.size(); l++) {
            Line line = lines.get(l);
            for (int t = 0; t < line.trips.size(); t++) {
                Trip trip = line.trips.get(t);
                for (int i = line.stops.length - 1; trip.runs && i >= 0; i--) {
                    if (earliest(from, at, line.stops[i], r - 1) > trip.minutes[i]) continue;
                    for (int j = i + 1; j < line.stops.length; j++) {
                        if (line.stops[j] != to || trip.minutes[j] != end) continue;
                        Leg leg = new Leg();
                        leg.line = l;
                        leg.trip = t;
                        leg.from = line.stops[i];
                        leg.to = to;
                        leg.begins = trip.minutes[i];
                        leg.ends = end;
                        leg.stopsMore = j - i;
                        return leg;
                    }
                }
            }
        }
        return null;
    }

    /** THE JOURNEY; null: there is none. */
    List<Leg> journey(int from, int at, int to, int r) {
        int end = earliest(from, at, to, r);
        if (end == NEVER) return null;
        if (to == from) return new ArrayList<>();
        Leg last = ride(from, at, to, end, r);
        if (last != null) return behind(from, at, last, r);
        for (int s = 0; s < 12; s++) {
            if (foot[s][to] == 0) continue;
            Leg walk = new Leg();
            walk.from = s;
            walk.to = to;
            walk.begins = end - foot[s][to];
            walk.ends = end;
            List<Leg> legs = null;
            if (s == from && walk.begins == at) legs = new ArrayList<>();
            if (legs == null) {
                Leg ahead = ride(from, at, s, walk.begins, r);
                if (ahead != null) legs = behind(from, at, ahead, r);
            }
            if (legs == null) continue;
            legs.add(walk);
            return legs;
        }
        throw new IllegalStateException("a journey without a last leg");
    }

    private List<Leg> behind(int from, int at, Leg ride, int r) {
        List<Leg> legs = journey(from, at, ride.from, r - 1);
        legs.add(ride);
        return legs;
    }

    static String spell(List<Leg> legs) {
        List<String> texts = new ArrayList<>();
        for (Leg g : legs) {
            texts.add((g.line < 0 ? "W" : "L" + g.line + "." + g.trip) + ":" + g.from + ">" + g.to);
        }
        return String.join(" ", texts);
    }

    int latest(int from, int to, int by, int r) {
        for (int t = 1999; t >= 0; t--) {
            if (earliest(from, t, to, r) <= by) return t;
        }
        return -5;
    }

    List<Integer> profile(int from, int to, int r, int first, int last) {
        List<Integer> all = new ArrayList<>();
        for (int t = first; t <= last; t++) {
            int now = earliest(from, t, to, r);
            int next = earliest(from, t + 1, to, r);
            if (now != NEVER && (next == NEVER || now < next)) all.add(t);
        }
        return all;
    }

    int[] worst(int from, int at, int to, int r) {
        int whole = earliest(from, at, to, r);
        int[] worst = {-5, -5};
        for (int l = 0; l < lines.size(); l++) {
            for (int t = 0; t < lines.get(l).trips.size(); t++) {
                Model m = copy();
                m.lines.get(l).trips.get(t).runs = false;
                int later = m.earliest(from, at, to, r) - whole;
                if (later > Math.max(0, worst[1])) worst = new int[] {10 * l + t, later};
            }
        }
        return worst;
    }

    int[] cut(int from, int at, int to, int r) {
        int whole = earliest(from, at, to, r);
        int[] worst = {-5, -5};
        for (int s = 0; s < 12; s++) {
            if (s == from || s == to) continue;
            Model m = copy();
            m.closed = s;
            int later = m.earliest(from, at, to, r) - whole;
            if (later > Math.max(0, worst[1])) worst = new int[] {s, later};
        }
        return worst;
    }

    List<int[]> board(int stop, int from) {
        List<int[]> rows = new ArrayList<>();
        for (int l = 0; l < lines.size(); l++) {
            Line line = lines.get(l);
            for (int t = 0; t < line.trips.size(); t++) {
                for (int i = 0; i + 1 < line.stops.length; i++) {
                    int m = line.trips.get(t).minutes[i];
                    if (line.stops[i] == stop && line.trips.get(t).runs && m >= from) rows.add(new int[] {l, t, m});
                }
            }
        }
        rows.sort((a, b) -> a[2] != b[2] ? a[2] - b[2] : a[0] != b[0] ? a[0] - b[0] : a[1] - b[1]);
        return rows;
    }

    int missed(int stop) {
        int least = -5;
        for (int[] goes : board(stop, 0)) {
            for (int l = 0; l < lines.size(); l++) {
                Line line = lines.get(l);
                for (Trip t : line.trips) {
                    for (int j = 1; j < line.stops.length; j++) {
                        int by = t.minutes[j] - goes[2];
                        if (l == goes[0] || !t.runs || line.stops[j] != stop || by <= 0) continue;
                        if (least < 0 || by < least) least = by;
                    }
                }
            }
        }
        return least;
    }

    // ---- the timetable: each reader answers where it goes on, or throws its fault

    static final class Fault extends RuntimeException {
        private static final long serialVersionUID = 1;
        final int place;

        Fault(int place) {
            this.place = place;
        }
    }

    private static int expect(String text, int place, char sign) {
        if (place >= text.length() || text.charAt(place) != sign) throw new Fault(place);
        return place + 1;
    }

    /** The end of a number of so many figures at most. */
    private static int numberEnd(String text, int place, int figures) {
        int end = place;
        while (end < text.length() && end - place < figures && Character.isDigit(text.charAt(end))) end++;
        if (end == place) throw new Fault(place);
        return end;
    }

    private static int number(String text, int begin, int end, int least, int most) {
        int n = Integer.parseInt(text.substring(begin, end));
        if (n < least || n > most) throw new Fault(begin);
        return n;
    }

    /** What table() is to answer; this becomes what it leaves. */
    int table(String text) {
        Model m = copy();
        try {
            int parts = 0;
            int place = 0;
            while (true) {
                place = m.part(text, place);
                parts++;
                if (place == text.length()) break;
                place = expect(text, place, ';');
            }
            lines = m.lines;
            foot = m.foot;
            forget();
            return parts;
        } catch (Fault f) {
            return -100 - f.place;
        }
    }

    private int part(String text, int place) {
        char sign = place < text.length() ? text.charAt(place) : 0;
        if (sign == 'L') return linePart(text, place);
        if (sign == 'T') return tripPart(text, place);
        if (sign == 'F') return footPart(text, place);
        if (sign == 'D') return delayPart(text, place);
        throw new Fault(place);
    }

    private int linePart(String text, int begin) {
        if (lines.size() == 8) throw new Fault(begin);
        Line line = new Line();
        line.kind = number(text, begin + 1, numberEnd(text, begin + 1, 1), 0, 5);
        int place = expect(text, begin + 2, ':');
        List<Integer> stops = new ArrayList<>();
        while (true) {
            int end = numberEnd(text, place, 2);
            int stop = number(text, place, end, 0, 11);
            if (stops.contains(stop)) throw new Fault(place);
            stops.add(stop);
            place = end;
            boolean over = place == text.length() || text.charAt(place) == ';';
            if (stops.size() == 6 || stops.size() > 1 && over) break;
            place = expect(text, place, '>');
        }
        line.stops = stops.stream().mapToInt(Integer::intValue).toArray();
        lines.add(line);
        return place;
    }

    private int tripPart(String text, int begin) {
        int place = numberEnd(text, begin + 1, 1);
        Line line = lines.get(number(text, begin + 1, place, 0, lines.size() - 1));
        if (line.trips.size() == 6) throw new Fault(begin);
        place = expect(text, place, ':');
        Trip trip = new Trip();
        trip.minutes = new int[line.stops.length];
        for (int i = 0; i < trip.minutes.length; i++) {
            if (i > 0) place = expect(text, place, '+');
            int end = numberEnd(text, place, i == 0 ? 4 : 3);
            int ahead = i == 0 ? 0 : trip.minutes[i - 1];
            trip.minutes[i] = ahead + number(text, place, end, i == 0 ? 0 : 1, 1999 - ahead);
            place = end;
        }
        trip.runs = runs(line.kind, trip.minutes[0]);
        line.trips.add(trip);
        return place;
    }

    private int footPart(String text, int begin) {
        int place = numberEnd(text, begin + 1, 2);
        int one = number(text, begin + 1, place, 0, 11);
        place = expect(text, place, '-');
        int end = numberEnd(text, place, 2);
        int other = number(text, place, end, 0, 11);
        if (one == other) throw new Fault(place);
        place = expect(text, end, '=');
        end = numberEnd(text, place, 2);
        foot[one][other] = number(text, place, end, 1, 60);
        foot[other][one] = foot[one][other];
        return end;
    }

    private int delayPart(String text, int begin) {
        int place = numberEnd(text, begin + 1, 1);
        Line line = lines.get(number(text, begin + 1, place, 0, lines.size() - 1));
        place = expect(text, place, '.');
        Trip trip = null;
        int end = numberEnd(text, place, 1);
        trip = line.trips.get(number(text, place, end, 0, line.trips.size() - 1));
        place = expect(text, end, '@');
        end = numberEnd(text, place, 1);
        int i = number(text, place, end, 0, line.stops.length - 1);
        place = expect(text, end, '+');
        end = numberEnd(text, place, 2);
        if (!delay(trip, i, number(text, place, end, 1, 99))) throw new Fault(begin);
        return end;
    }

    boolean delay(Trip trip, int i, int more) {
        if (trip.minutes[trip.minutes.length - 1] + more > 9000) return false;
        for (int k = i; k < trip.minutes.length; k++) trip.minutes[k] += more;
        forget();
        return true;
    }
}
