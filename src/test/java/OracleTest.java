import java.util.List;
import java.util.Random;

/** Random worlds: each question is asked of the class and of the Oracle. */
public final class OracleTest {
    private static final int NONE = -1;
    private static final int AWAY = -1000000;
    private static final long D = 86400;

    private final Random random;
    private final Oracle o = new Oracle();
    private UnequalHours x = new UnequalHours();
    private String world = "";

    private OracleTest(long seed) {
        random = new Random(seed);
    }

    public static void main(String[] args) {
        for (long seed = 0; seed < 600; seed++) {
            new OracleTest(seed).run();
        }
        Checks.close("OracleTest");
    }

    private int below(int n) {
        return random.nextInt(n);
    }

    private boolean seldom() {
        return below(25) == 0;
    }

    private void run() {
        makeWorld();
        for (int i = 0; i < 60; i++) {
            ask();
        }
    }

    private void makeWorld() {
        StringBuilder text = new StringBuilder();
        int towns = 1 + below(4);
        int kind = below(4);
        for (int t = 0; t < towns; t++) {
            Oracle.Place p = new Oracle.Place();
            p.offset = kind == 0 ? 0 : below(3) == 0 ? (below(2) * 2 - 1) * 43200 : below(86401) - 43200;
            text.append('t').append(p.offset).append(';');
            int points = below(4) == 0 ? 1 : below(8);
            for (int i = 0; i < points; i++) {
                putPoint(p, kind);
            }
            p.points.forEach((y, v) -> text.append(v.length == 1 ? 'x' : 'p').append(y).append(',').append(v[0])
                .append(v.length == 1 ? "" : "," + v[1]).append(';'));
            o.places.add(p);
        }
        o.parts = below(3) == 0 ? 60 : below(3) == 0 ? 1 + below(3600) : 1 + below(12);
        Checks.text(x, text.toString());
        Checks.due("text " + text, x.fault(), NONE);
        x.parts(o.parts);
        String bells = makeBells();
        Checks.bells(x, bells);
        Checks.due("bells " + bells, x.fault(), NONE);
        world = text + " q" + o.parts + " " + bells + " ";
    }

    private void putPoint(Oracle.Place p, int kind) {
        int y = below(3) == 0 ? below(5) : below(360);
        if (p.points.size() < 12 && below(5) == 0) {
            p.points.put(y, new int[] {below(2)});
            return;
        }
        int dawn = kind == 1 ? below(3) * 43199 : kind == 2 ? 21600 - below(2) * 600 : below(86399);
        int dusk = kind == 1 ? dawn + 1 + below(30) : kind == 2 ? 64800 : dawn + 1 + below(86399 - dawn);
        p.points.put(y, new int[] {dawn, Math.min(dusk, 86399)});
        if (dawn >= p.points.get(y)[1]) {
            p.points.remove(y);
        }
    }

    private String makeBells() {
        StringBuilder text = new StringBuilder();
        int bells = below(9);
        for (int k = 0; k < bells; k++) {
            String cond = below(3) == 0 ? makeCond() : "";
            int part = below(2) == 0 ? 0 : below(2) == 0 ? below(o.parts) : below(3600);
            Oracle.Bell b = new Oracle.Bell(below(2), below(3) == 0 ? below(2) * 11 : below(12), part, 1 + below(24), cond);
            o.bells.add(b);
            text.append(b.half() == 0 ? 'd' : 'n').append(b.hour()).append(part == 0 ? "" : "." + part);
            text.append('*').append(b.strokes()).append(cond.isEmpty() ? "" : "?" + cond).append(';');
        }
        return text.toString();
    }

    private String makeCond() {
        StringBuilder cond = new StringBuilder();
        int things = 2;
        cond.append(thing()).append("<>=".charAt(below(3))).append(thing());
        while (things < 5 && below(3) != 0) {
            if (things < 4 && below(3) == 0) {
                cond.append("&|".charAt(below(2))).append(thing()).append("<>=".charAt(below(3))).append(thing());
                things += 2;
            } else {
                cond.append("+-*/".charAt(below(4))).append(thing());
                things++;
            }
        }
        return cond.toString();
    }

    private String thing() {
        return below(2) == 0 ? "" + "wyltz".charAt(below(5)) : "" + (below(2) == 0 ? below(8) : below(100000));
    }

    private int town() {
        return seldom() ? below(7) - 1 : below(o.places.size());
    }

    private int key() {
        return seldom() ? below(19) - 1 : below(o.places.size()) * 4 + below(o.places.size());
    }

    private int day() {
        if (seldom()) {
            return below(2) == 0 ? -1 : 36000;
        }
        int kind = below(6);
        if (kind == 0) {
            return below(4);
        }
        if (kind == 1) {
            return 35999 - below(4);
        }
        if (kind == 2) {
            Oracle.Place p = o.places.get(below(o.places.size()));
            Integer y = p.points.ceilingKey(below(360));
            return Math.max(0, (y == null ? 0 : y) + 360 * below(3) + below(5) - 2);
        }
        return kind == 3 ? below(360) : below(36000);
    }

    private int second(int t, int day) {
        if (seldom()) {
            return below(2) == 0 ? -1 : 86400;
        }
        int[] hours = o.isTown(t) && Oracle.isDay(day) ? o.table(t, day) : new int[1];
        if (hours.length == 2 && below(3) == 0) {
            return Math.min(86399, Math.max(0, hours[below(2)] + below(5) - 2));
        }
        return below(86400);
    }

    private int half() {
        return seldom() ? below(4) - 1 : below(2);
    }

    private int place() {
        int all = 12 * o.parts;
        return seldom() ? below(2) == 0 ? -1 : all : below(3) == 0 ? below(2) * (all - 1) : below(all);
    }

    private int what(int most) {
        return seldom() ? below(2) == 0 ? -1 : most + 1 : below(most + 1);
    }

    private void due(String call, long got, long want) {
        Checks.due(world + call, got, want);
    }

    private void ask() {
        switch (below(14)) {
            case 0:
                table();
                turn();
                back();
                break;
            case 1:
                over();
                date();
                break;
            case 2:
                ring();
                soonest();
                clash();
                break;
            case 3:
                jar();
                work();
                break;
            case 4:
                season();
                meet();
                break;
            case 5:
                middle();
                apart();
                best();
                break;
            case 6:
                candle();
                shared();
                break;
            case 7:
                busiest();
                spare();
                break;
            case 8:
                arrive();
                exact();
                break;
            case 9:
                alike();
                growth();
                break;
            case 10:
                watch();
                shows();
                break;
            case 11:
                spread();
                total();
                quiet();
                break;
            case 12:
                same();
                until();
                break;
            default:
                lag();
                meet();
                break;
        }
    }

    private void table() {
        int t = town();
        int day = day();
        int what = what(4);
        long want = NONE;
        if (o.isTown(t) && Oracle.isDay(day) && what >= 0 && what <= 4) {
            int[] hours = o.table(t, day);
            boolean polar = hours.length == 1;
            Oracle.Part night = o.part(t, day, 1);
            if (what == 4) {
                want = polar ? hours[0] : -1;
            } else if (polar) {
                want = -2;
            } else if (what < 2) {
                want = hours[what];
            } else {
                want = what == 2 ? hours[1] - hours[0] : night == null ? -2 : night.size();
            }
        }
        due("table(" + t + ", " + day + ", " + what + ")", x.table(t, day, what), want);
    }

    /** What turn() tells, of a time by a TOWN; what is 0 to 5. */
    private long told(int t, long time, int what) {
        Oracle.Part p = o.at(t, time);
        if (p == null) {
            return -2;
        }
        long place = o.placeAt(p, time);
        long[] all = {p.day(), p.half(), place / o.parts, place % o.parts, place, time - p.begin()};
        return all[what];
    }

    private void turn() {
        int t = town();
        int day = day();
        int second = second(t, day);
        int what = what(5);
        long want = NONE;
        if (o.isTown(t) && Oracle.isDay(day) && Oracle.isSecond(second) && what >= 0 && what <= 5) {
            want = told(t, day * D + second, what);
        }
        due("turn(" + t + ", " + day + ", " + second + ", " + what + ")", x.turn(t, day, second, what), want);
    }

    private long backOf(int t, int day, int half, int place) {
        if (!o.isTown(t) || !Oracle.isDay(day) || !o.isPlace(half, place)) {
            return NONE;
        }
        Oracle.Part p = o.part(t, day, half);
        if (p == null || o.from(p, place) == p.end()) {
            return -2;
        }
        return o.from(p, place) - day * D;
    }

    private void back() {
        int t = town();
        int day = day();
        int half = half();
        int place = place();
        due("back(" + t + ", " + day + ", " + half + ", " + place + ")", x.back(t, day, half, place),
            backOf(t, day, half, place));
    }

    private void over() {
        int t = town();
        int other = town();
        int day = day();
        int second = second(t, day);
        int what = what(1);
        long want = AWAY;
        if (o.isTown(t) && o.isTown(other) && Oracle.isDay(day) && Oracle.isSecond(second) && (what == 0 || what == 1)) {
            long time = o.local(day * D + second, t, other);
            want = what == 0 ? Math.floorDiv(time, D) : Math.floorMod(time, D);
        }
        due("over(" + t + ", " + day + ", " + second + ", " + other + ", " + what + ")",
            x.over(t, day, second, other, what), want);
    }

    private void date() {
        int t = town();
        int day = day();
        int second = second(t, day);
        int by = what(3);
        long want = NONE;
        if (o.isTown(t) && Oracle.isDay(day) && Oracle.isSecond(second) && by >= 0 && by <= 3) {
            int[] hours = o.table(t, day);
            if ((by == 1 || by == 2) && hours.length == 1) {
                want = -2;
            } else {
                int[] turns = {0, hours[0], hours[hours.length - 1], 43200};
                want = day + (by == 2 ? 1 : 0) - (second < turns[by] ? 1 : 0);
            }
        }
        due("date(" + t + ", " + day + ", " + second + ", " + by + ")", x.date(t, day, second, by), want);
    }

    private void ring() {
        int t = town();
        int day = day();
        boolean right = o.isTown(t) && Oracle.isDay(day);
        List<Oracle.Ring> all = right ? o.rings(t, day) : List.of();
        due("ring(" + t + ", " + day + ", -1, 0)", x.ring(t, day, -1, 0), right ? all.size() : NONE);
        for (int i = 0; i <= all.size(); i++) {
            boolean there = i < all.size();
            String call = "ring(" + t + ", " + day + ", " + i + ", ";
            due(call + "0)", x.ring(t, day, i, 0), there ? all.get(i).at() - day * D : NONE);
            due(call + "1)", x.ring(t, day, i, 1), there ? all.get(i).bell() : NONE);
            due(call + "2)", x.ring(t, day, i, 2), there ? o.bells.get(all.get(i).bell()).strokes() : NONE);
            due(call + "3)", x.ring(t, day, i, 3), NONE);
        }
        due("strokes(" + t + ", " + day + ")", x.strokes(t, day), right ? o.strokes(t, day) : NONE);
    }

    private void soonest() {
        int t = town();
        int day = day();
        int second = second(t, day);
        long want = NONE;
        if (o.isTown(t) && Oracle.isDay(day) && Oracle.isSecond(second)) {
            want = -2;
            for (int d = day + 1; d >= day; d--) {
                for (Oracle.Ring r : o.rings(t, d)) {
                    long wait = r.at() - day * D - second;
                    if (wait >= 0 && (want == -2 || wait < want)) {
                        want = wait;
                    }
                }
            }
        }
        due("soonest(" + t + ", " + day + ", " + second + ")", x.soonest(t, day, second), want);
    }

    private void clash() {
        int t = town();
        int day = day();
        int seconds = seldom() ? 86401 : below(3) == 0 ? below(10) : below(86401);
        long want = NONE;
        if (o.isTown(t) && Oracle.isDay(day) && seconds <= 86400) {
            want = 0;
            List<Oracle.Ring> all = o.rings(t, day);
            for (int i = 1; i < all.size(); i++) {
                want += all.get(i).at() < all.get(i - 1).at() + seconds ? 1 : 0;
            }
        }
        due("clash(" + t + ", " + day + ", " + seconds + ")", x.clash(t, day, seconds), want);
    }

    private void jar() {
        int t = town();
        int one = day();
        int other = day();
        int second = second(t, other);
        int what = what(1);
        long want = -1000;
        if (o.isTown(t) && Oracle.isDay(one) && Oracle.isDay(other) && Oracle.isSecond(second) && what >= 0 && what <= 1) {
            Oracle.Part marked = o.part(t, one, 0);
            Oracle.Part begun = o.part(t, other, 0);
            long time = other * D + second;
            if (marked == null || begun == null || time < begun.begin() || time >= begun.end()) {
                want = -100;
            } else {
                long mark = Math.min(12, (time - begun.begin()) * 12 / marked.size());
                want = what == 0 ? mark : mark - o.hourAt(begun, time);
            }
        }
        due("jar(" + t + ", " + one + ", " + other + ", " + second + ", " + what + ")",
            x.jar(t, one, other, second, what), want);
    }

    private void work() {
        int t = town();
        int from = day();
        int to = seldom() ? day() : from + below(seldom() ? 400 : 20);
        int a = below(13) - (seldom() ? 1 : 0);
        int b = below(14);
        long want = NONE;
        if (o.isTown(t) && Oracle.isDay(from) && Oracle.isDay(to) && from <= to && to <= from + 359
            && a >= 0 && a < b && b <= 12) {
            want = 0;
            for (int d = from; d <= to; d++) {
                Oracle.Part p = o.part(t, d, 0);
                if (p != null) {
                    want += o.from(p, (long) b * o.parts) - o.from(p, (long) a * o.parts);
                }
            }
        }
        due("work(" + t + ", " + from + ", " + to + ", " + a + ", " + b + ")", x.work(t, from, to, a, b), want);
    }

    private void season() {
        int t = town();
        int what = what(3);
        long want = NONE;
        if (o.isTown(t) && what >= 0 && what <= 3) {
            int polar = 0;
            long found = -2;
            for (int d = 359; d >= 0; d--) {
                Oracle.Part p = o.part(t, d, 0);
                if (p == null) {
                    polar++;
                    continue;
                }
                long than = found == -2 ? -1 : o.part(t, (int) found, 0).size();
                boolean longer = p.size() >= than;
                boolean shorter = p.size() <= than;
                boolean nearer = Math.abs(p.size() - 43200) <= Math.abs(than - 43200);
                if (found == -2 || (what == 0 ? longer : what == 1 ? shorter : nearer)) {
                    found = d;
                }
            }
            want = what == 3 ? polar : found;
        }
        due("season(" + t + ", " + what + ")", x.season(t, what), want);
    }

    private void meet() {
        int key = key();
        int a = seldom() ? 24 : below(24);
        int b = seldom() ? -1 : below(24);
        int day = day();
        boolean right = key >= 0 && key < 16 && o.isTown(key / 4) && o.isTown(key % 4) && a < 24 && b >= 0 && Oracle.isDay(day);
        long first = AWAY;
        long together = AWAY;
        Oracle.Part p = right ? o.part(key / 4, day, a / 12) : null;
        for (long time = p == null ? 0 : p.begin(); p != null && time < p.end(); time++) {
            if (o.hourAt(p, time) != a % 12) {
                continue;
            }
            long there = o.local(time, key / 4, key % 4);
            Oracle.Part q = o.at(key % 4, there);
            if (q != null && q.half() == b / 12 && o.hourAt(q, there) == b % 12) {
                together = first == AWAY ? 1 : together + 1;
                first = first == AWAY ? time - day * D : first;
            } else if (first != AWAY) {
                break;
            }
        }
        String call = "meet(" + key + ", " + a + ", " + b + ", " + day + ", ";
        due(call + "0)", x.meet(key, a, b, day, 0), first);
        due(call + "1)", x.meet(key, a, b, day, 1), together);
        due(call + "2)", x.meet(key, a, b, day, 2), AWAY);
    }

    private void middle() {
        int t = town();
        int day = day();
        int half = half();
        int what = what(1);
        long want = AWAY;
        if (o.isTown(t) && Oracle.isDay(day) && (half == 0 || half == 1) && (what == 0 || what == 1)) {
            Oracle.Part p = o.part(t, day, half);
            if (p != null) {
                want = p.begin() - day * D + p.size() / 2 - what * (half + 1) * 43200L;
            }
        }
        due("middle(" + t + ", " + day + ", " + half + ", " + what + ")", x.middle(t, day, half, what), want);
    }

    private void apart() {
        int t = town();
        int day = day();
        int half = half();
        int one = place();
        int other = place();
        long first = backOf(t, day, half, one);
        long second = backOf(t, day, half, other);
        due("apart(" + t + ", " + day + ", " + half + ", " + one + ", " + other + ")", x.apart(t, day, half, one, other),
            first < 0 || second < 0 ? AWAY : second - first);
    }

    private int many(int most) {
        return seldom() ? below(2) * (most + 1) : 1 + below(below(3) == 0 ? most : 10);
    }

    private void best() {
        int t = town();
        int from = day();
        int many = many(360);
        int hour = what(11);
        int what = what(2);
        long want = NONE;
        if (o.isTown(t) && Oracle.isDay(from) && many >= 1 && many <= 360 && hour >= 0 && hour < 12 && what >= 0 && what <= 2) {
            want = -2;
            long[] chosen = new long[2];
            for (int d = from; d < from + many; d++) {
                Oracle.Part p = o.part(t, d, 0);
                if (p == null) {
                    continue;
                }
                long begin = o.from(p, (long) hour * o.parts);
                long[] here = {begin - d * D, o.from(p, (hour + 1L) * o.parts) - begin};
                if (want == -2 || what == 0 && here[1] > chosen[1] || what == 1 && here[0] < chosen[0]
                    || what == 2 && here[0] > chosen[0]) {
                    want = d;
                    chosen = here;
                }
            }
        }
        due("best(" + t + ", " + from + ", " + many + ", " + hour + ", " + what + ")", x.best(t, from, many, hour, what),
            want);
    }

    private void candle() {
        int t = town();
        int one = day();
        int from = day();
        long want = NONE;
        if (o.isTown(t) && Oracle.isDay(one) && Oracle.isDay(from)) {
            want = -2;
            Oracle.Part p = o.part(t, one, 0);
            long left = p == null ? 0 : p.size();
            for (int d = from; d <= from + 359 && p != null; d++) {
                Oracle.Part q = o.part(t, d, 0);
                if (q != null && q.size() / 12 >= left) {
                    want = d;
                    break;
                }
                left -= q == null ? 0 : q.size() / 12;
            }
        }
        due("candle(" + t + ", " + one + ", " + from + ")", x.candle(t, one, from), want);
    }

    private void shared() {
        int key = key();
        int day = day();
        boolean right = key >= 0 && key < 16 && o.isTown(key / 4) && o.isTown(key % 4) && Oracle.isDay(day);
        long sum = 0;
        long days = 0;
        Oracle.Part p = right ? o.part(key / 4, day, 0) : null;
        for (int d = day - 1; d <= day + 1 && p != null; d++) {
            Oracle.Part q = o.part(key % 4, d, 0);
            long both = 0;
            for (long time = p.begin(); time < p.end() && q != null; time++) {
                long there = o.local(time, key / 4, key % 4);
                both += q.begin() <= there && there < q.end() ? 1 : 0;
            }
            sum += both;
            days += both > 0 ? 1 : 0;
        }
        due("shared(" + key + ", " + day + ", 0)", x.shared(key, day, 0), right ? sum : NONE);
        due("shared(" + key + ", " + day + ", 1)", x.shared(key, day, 1), right ? days : NONE);
        due("shared(" + key + ", " + day + ", 2)", x.shared(key, day, 2), NONE);
    }

    private void busiest() {
        int t = town();
        int from = day();
        int many = many(60);
        int what = what(1);
        long want = NONE;
        if (o.isTown(t) && Oracle.isDay(from) && many >= 1 && many <= 60 && (what == 0 || what == 1)) {
            int[] rung = new int[9];
            for (int d = from; d < from + many; d++) {
                for (Oracle.Ring r : o.rings(t, d)) {
                    rung[r.bell()]++;
                }
            }
            int chosen = 8;
            for (int k = 7; k >= 0; k--) {
                chosen = rung[k] >= rung[chosen] ? k : chosen;
            }
            // Where nothing rings there is no BELL of most RINGS.
            want = what == 1 ? rung[chosen] : rung[chosen] == 0 ? NONE : chosen;
        }
        due("busiest(" + t + ", " + from + ", " + many + ", " + what + ")", x.busiest(t, from, many, what), want);
    }

    private void spare() {
        int t = town();
        long want = NONE;
        if (o.isTown(t)) {
            want = 0;
            Oracle.Place p = o.places.get(t);
            for (int y = 0; y < 360; y++) {
                int[] was = p.points.get(y);
                if (was == null || p.points.size() == 1) {
                    continue;
                }
                p.points.remove(y);
                want += java.util.Arrays.equals(was, o.table(t, y)) ? 1 : 0;
                p.points.put(y, was);
            }
        }
        due("spare(" + t + ")", x.spare(t), want);
    }

    private void arrive() {
        int key = key();
        int day = day();
        int second = second(key / 4, day);
        int takes = seldom() ? 864001 : below(2) == 0 ? below(1000) : below(864001);
        int what = what(3);
        long want = NONE;
        if (key >= 0 && key < 16 && o.isTown(key / 4) && o.isTown(key % 4) && Oracle.isDay(day)
            && Oracle.isSecond(second) && takes <= 864000 && what >= 0 && what <= 3) {
            long time = o.local(day * D + second + takes, key / 4, key % 4);
            if (!Oracle.isDay(Math.floorDiv(time, D))) {
                want = -2;
            } else if (what < 2) {
                want = what == 0 ? time / D : time % D;
            } else {
                want = told(key % 4, time, what - 1);
            }
        }
        due("arrive(" + key + ", " + day + ", " + second + ", " + takes + ", " + what + ")",
            x.arrive(key, day, second, takes, what), want);
    }

    private void exact() {
        int t = town();
        int day = day();
        int half = half();
        int what = what(1);
        long want = NONE;
        if (o.isTown(t) && Oracle.isDay(day) && (half == 0 || half == 1) && (what == 0 || what == 1)) {
            Oracle.Part p = o.part(t, day, half);
            want = -2;
            for (int lower = 12; lower >= 1 && p != null; lower--) {
                if (p.size() * lower % 12 == 0) {
                    want = what == 0 ? p.size() * lower / 12 : lower;
                }
            }
        }
        due("exact(" + t + ", " + day + ", " + half + ", " + what + ")", x.exact(t, day, half, what), want);
    }

    private void alike() {
        int t = town();
        int one = day();
        int from = day();
        long want = NONE;
        if (o.isTown(t) && Oracle.isDay(one) && Oracle.isDay(from)) {
            want = -2;
            for (int d = from + 359; d >= from; d--) {
                Oracle.Part p = o.part(t, d, 0);
                if (p != null && o.part(t, one, 0) != null && p.size() == o.part(t, one, 0).size()) {
                    want = d;
                }
            }
        }
        due("alike(" + t + ", " + one + ", " + from + ")", x.alike(t, one, from), want);
    }

    private void growth() {
        int t = town();
        int from = day();
        int many = many(360);
        int what = what(2);
        long want = AWAY;
        if (o.isTown(t) && Oracle.isDay(from) && many >= 1 && many <= 360 && what >= 0 && what <= 2) {
            long[] all = {0, AWAY, -2};
            for (int d = from; d < from + many; d++) {
                Oracle.Part p = o.part(t, d, 0);
                Oracle.Part q = o.part(t, d - 1, 0);
                if (p != null && q != null) {
                    all[0] += p.size() - q.size();
                    all[2] = p.size() - q.size() > all[1] ? d : all[2];
                    all[1] = Math.max(all[1], p.size() - q.size());
                }
            }
            want = all[what];
        }
        due("growth(" + t + ", " + from + ", " + many + ", " + what + ")", x.growth(t, from, many, what), want);
    }

    private void watch() {
        int t = town();
        int day = day();
        int k = what(3);
        int what = what(1);
        long want = NONE;
        if (o.isTown(t) && Oracle.isDay(day) && k >= 0 && k <= 3 && (what == 0 || what == 1)) {
            Oracle.Part p = o.part(t, day, 1);
            want = -2;
            if (p != null) {
                long begin = o.from(p, 3L * k * o.parts);
                want = what == 0 ? begin - day * D : o.from(p, 3L * (k + 1) * o.parts) - begin;
            }
        }
        due("watch(" + t + ", " + day + ", " + k + ", " + what + ")", x.watch(t, day, k, what), want);
    }

    private void shows() {
        int key = key();
        int day = day();
        int half = half();
        int place = place();
        int what = what(2);
        long want = NONE;
        if (key >= 0 && key < 16 && o.isTown(key / 4) && o.isTown(key % 4) && what >= 0 && what <= 2) {
            want = backOf(key / 4, day, half, place);
            if (want >= 0) {
                long time = o.local(day * D + want, key / 4, key % 4);
                want = Oracle.isDay(Math.floorDiv(time, D)) ? told(key % 4, time, what == 2 ? 4 : what) : -2;
            }
        }
        due("shows(" + key + ", " + day + ", " + half + ", " + place + ", " + what + ")",
            x.shows(key, day, half, place, what), want);
    }

    private void spread() {
        int day = day();
        int what = what(2);
        long want = NONE;
        if (Oracle.isDay(day) && what >= 0 && what <= 2) {
            int most = -2;
            int least = -2;
            for (int t = o.places.size() - 1; t >= 0; t--) {
                Oracle.Part p = o.part(t, day, 0);
                if (p != null) {
                    most = most == -2 || p.size() >= o.part(most, day, 0).size() ? t : most;
                    least = least == -2 || p.size() <= o.part(least, day, 0).size() ? t : least;
                }
            }
            want = what == 0 ? most : what == 1 ? least : most == -2 ? -2
                : o.part(most, day, 0).size() - o.part(least, day, 0).size();
        }
        due("spread(" + day + ", " + what + ")", x.spread(day, what), want);
    }

    private void total() {
        int t = town();
        int from = day();
        int many = many(60);
        long want = NONE;
        if (o.isTown(t) && Oracle.isDay(from) && many >= 1 && many <= 60) {
            want = 0;
            for (int d = from; d < from + many; d++) {
                want += o.strokes(t, d);
            }
        }
        due("total(" + t + ", " + from + ", " + many + ")", x.total(t, from, many), want);
    }

    private void quiet() {
        int t = town();
        int day = day();
        boolean right = o.isTown(t) && Oracle.isDay(day);
        long begin = NONE;
        long longest = NONE;
        if (right) {
            java.util.TreeSet<Long> all = new java.util.TreeSet<>(List.of(day * D, (day + 1) * D));
            o.rings(t, day).forEach(r -> all.add(r.at()));
            for (long one : all) {
                Long next = all.higher(one);
                if (next != null && next - one > longest) {
                    begin = one - day * D;
                    longest = next - one;
                }
            }
        }
        due("quiet(" + t + ", " + day + ", 0)", x.quiet(t, day, 0), begin);
        due("quiet(" + t + ", " + day + ", 1)", x.quiet(t, day, 1), longest);
        due("quiet(" + t + ", " + day + ", 2)", x.quiet(t, day, 2), NONE);
    }

    private void same() {
        int key = key();
        int day = day();
        long want = NONE;
        if (key >= 0 && key < 16 && o.isTown(key / 4) && o.isTown(key % 4) && Oracle.isDay(day)) {
            want = 0;
            for (Oracle.Ring r : o.rings(key / 4, day)) {
                long there = o.local(r.at(), key / 4, key % 4);
                want += o.rings(key % 4, (int) Math.floorDiv(there, D)).stream().anyMatch(s -> s.at() == there) ? 1 : 0;
            }
        }
        due("same(" + key + ", " + day + ")", x.same(key, day), want);
    }

    private void until() {
        int t = town();
        int day = day();
        int second = second(t, day);
        int half = half();
        int place = place();
        long want = NONE;
        if (o.isTown(t) && Oracle.isDay(day) && Oracle.isSecond(second) && o.isPlace(half, place)) {
            want = -2;
            for (int d = day + 2; d >= day - 1; d--) {
                long then = backOf(t, d, half, place);
                long wait = d * D + then - day * D - second;
                if (then >= 0 && wait >= 0 && (want == -2 || wait < want)) {
                    want = wait;
                }
            }
        }
        due("until(" + t + ", " + day + ", " + second + ", " + half + ", " + place + ")",
            x.until(t, day, second, half, place), want);
    }

    private void lag() {
        int key = key();
        int day = day();
        int half = half();
        int place = place();
        long want = AWAY;
        if (key >= 0 && key < 16 && o.isTown(key / 4) && o.isTown(key % 4)) {
            long one = backOf(key / 4, day, half, place);
            long two = backOf(key % 4, day, half, place);
            if (one >= 0 && two >= 0) {
                want = two - o.places.get(key % 4).offset - one + o.places.get(key / 4).offset;
            }
        }
        due("lag(" + key + ", " + day + ", " + half + ", " + place + ")", x.lag(key, day, half, place), want);
    }
}
