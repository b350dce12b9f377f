import java.util.ArrayList;
import java.util.HashMap;
import java.util.List;
import java.util.Map;
import java.util.TreeMap;

/**
 * A second reading of the document, slow and by other ways than the class: time is told in seconds since DAY 0's
 * midnight by a TOWN's own time, PLACES are found by walking along the seconds, CONDS are read anew each time.
 */
final class Oracle {
    static final int NONE = -1;
    static final int AWAY = -1000000;
    static final long D = 86400;

    /** A TOWN: POINTS as {DAWN, DUSK} or {POLAR}. */
    static final class Place {
        long offset;
        final TreeMap<Integer, int[]> points = new TreeMap<>();
    }

    /** A LIGHT or NIGHT: its seconds are those from begin to end. */
    record Part(int day, int half, long begin, long end) {
        long size() {
            return end - begin;
        }
    }

    record Bell(int half, int hour, int part, int strokes, String cond) {
    }

    record Ring(long at, int bell, boolean ofNightAhead) {
    }

    final List<Place> places = new ArrayList<>();
    final List<Bell> bells = new ArrayList<>();
    int parts = 60;
    private final Map<Long, Part> known = new HashMap<>();

    void changed() {
        known.clear();
    }

    boolean isTown(int t) {
        return t >= 0 && t < places.size();
    }

    static boolean isDay(long day) {
        return day >= 0 && day < 36000;
    }

    static boolean isSecond(int second) {
        return second >= 0 && second < D;
    }

    boolean isPlace(int half, int place) {
        return (half == 0 || half == 1) && place >= 0 && place < 12 * parts;
    }

    /** {DAWN, DUSK} or {POLAR}. */
    int[] table(int t, int day) {
        TreeMap<Integer, int[]> points = places.get(t).points;
        int y = day % 360;
        if (points.isEmpty()) {
            return new int[] {0};
        }
        if (points.containsKey(y)) {
            return points.get(y);
        }
        int back = 1;
        while (!points.containsKey((y - back + 360) % 360)) {
            back++;
        }
        int on = 1;
        while (!points.containsKey((y + on) % 360)) {
            on++;
        }
        int[] one = points.get((y - back + 360) % 360);
        int[] two = points.get((y + on) % 360);
        if (one.length == 1) {
            return one;
        }
        if (two.length == 1) {
            return two;
        }
        return new int[] {between(one[0], two[0], back, back + on), between(one[1], two[1], back, back + on)};
    }

    private static int between(int one, int two, int since, int all) {
        // Counted up, from a little below where it must end.
        int n = (int) ((double) (two - one) * since / all) - 3;
        while ((long) (n + 1) * all <= (long) (two - one) * since) {
            n++;
        }
        return one + n;
    }

    Part part(int t, int day, int half) {
        if (!isDay(day)) {
            return null;
        }
        long key = ((long) t * 100000 + day) * 2 + half;
        if (!known.containsKey(key)) {
            known.put(key, newPart(t, day, half));
        }
        return known.get(key);
    }

    private Part newPart(int t, int day, int half) {
        int[] here = table(t, day);
        if (here.length == 1) {
            return null;
        }
        if (half == 0) {
            return new Part(day, 0, day * D + here[0], day * D + here[1]);
        }
        if (!isDay(day + 1) || table(t, day + 1).length == 1) {
            return null;
        }
        return new Part(day, 1, day * D + here[1], (day + 1) * D + table(t, day + 1)[0]);
    }

    Part at(int t, long time) {
        int day = (int) Math.floorDiv(time, D);
        for (int d = day - 2; d <= day + 2; d++) {
            for (int half = 0; half <= 1; half++) {
                Part p = part(t, d, half);
                if (p != null && p.begin <= time && time < p.end) {
                    return p;
                }
            }
        }
        return null;
    }

    long placeAt(Part p, long time) {
        return (time - p.begin) * 12 * parts / p.size();
    }

    int hourAt(Part p, long time) {
        return (int) (placeAt(p, time) / parts);
    }

    /** The first second whose PLACE is that or above; the end if there is none. */
    long from(Part p, long place) {
        // A walk, begun a little ahead of where it must end.
        long time = p.begin + Math.max(0, p.size() * place / (12L * parts) - 5);
        while (time > p.begin && placeAt(p, time - 1) >= place) {
            time--;
        }
        while (time < p.end && placeAt(p, time) < place) {
            time++;
        }
        return time;
    }

    long local(long time, int t, int other) {
        return time - places.get(t).offset + places.get(other).offset;
    }

    List<Ring> rings(int t, int day) {
        List<Ring> all = new ArrayList<>();
        if (!isDay(day)) {
            return all;
        }
        for (int d = day - 1; d <= day; d++) {
            for (int half = 0; half <= 1; half++) {
                Part p = part(t, d, half);
                for (int k = 0; k < bells.size() && p != null; k++) {
                    Bell b = bells.get(k);
                    if (b.half != half || b.part >= parts || !new Cond(b.cond, t, p).holds()) {
                        continue;
                    }
                    long time = from(p, (long) b.hour * parts + b.part);
                    if (time < p.end && Math.floorDiv(time, D) == day) {
                        all.add(new Ring(time, k, d < day));
                    }
                }
            }
        }
        all.sort((a, b) -> {
            if (a.at != b.at) {
                return Long.compare(a.at, b.at);
            }
            return a.bell != b.bell ? a.bell - b.bell : Boolean.compare(b.ofNightAhead, a.ofNightAhead);
        });
        return all;
    }

    int strokes(int t, int day) {
        int sum = 0;
        for (Ring r : rings(t, day)) {
            sum += bells.get(r.bell).strokes;
        }
        return sum;
    }

    /** COND by its grammar, from the left to the right, with a method for each of its words. */
    static final class Cond {
        private final String text;
        private final int town;
        private final Part part;
        private int at = 0;

        Cond(String text, int town, Part part) {
            this.text = text;
            this.town = town;
            this.part = part;
        }

        boolean holds() {
            if (text.isEmpty()) {
                return true;
            }
            boolean any = both();
            while (next('|')) {
                any |= both();
            }
            return any;
        }

        private boolean both() {
            boolean all = test();
            while (next('&')) {
                all &= test();
            }
            return all;
        }

        private boolean test() {
            int left = sum();
            if (next('<')) {
                return left < sum();
            }
            if (next('>')) {
                return left > sum();
            }
            at++;
            return left == sum();
        }

        private int sum() {
            int sum = product();
            while (true) {
                if (next('+')) {
                    sum += product();
                } else if (next('-')) {
                    sum -= product();
                } else {
                    return sum;
                }
            }
        }

        private int product() {
            int product = thing();
            while (true) {
                if (next('*')) {
                    product *= thing();
                } else if (next('/')) {
                    int by = thing();
                    product = by == 0 ? 0 : product / by;
                } else {
                    return product;
                }
            }
        }

        private int thing() {
            char c = text.charAt(at);
            at++;
            switch (c) {
                case 'w':
                    return part.day % 7;
                case 'y':
                    return part.day % 360;
                case 'l':
                    return (int) part.size();
                case 't':
                    return town;
                case 'z':
                    return part.day;
                default:
                    int from = at - 1;
                    while (at < text.length() && Character.isDigit(text.charAt(at))) {
                        at++;
                    }
                    return Integer.parseInt(text.substring(from, at));
            }
        }

        private boolean next(char c) {
            if (at < text.length() && text.charAt(at) == c) {
                at++;
                return true;
            }
            return false;
        }
    }
}
