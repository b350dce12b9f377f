import java.util.ArrayDeque;
import java.util.ArrayList;
import java.util.Deque;
import java.util.List;
import java.util.Map;
import java.util.Random;
import java.util.TreeMap;

/** Random changes, undo, keep and restore, against whole copies of what was told. */
public final class DeedTest {
    private static final int NONE = -1;
    private static final int AWAY = -1000000;
    private static final String[] BELLS = {"", "d1*2;", "n3*4;d5*6;", "d0*1?w<3;n1*1;d2*3?1=1|2>y;"};

    /** What a DEED changes: TOWNS (POINTS as they are written), PARTS, BELLS. */
    private static final class Told {
        final List<Integer> offsets = new ArrayList<>();
        final List<TreeMap<Integer, String>> points = new ArrayList<>();
        int parts = 60;
        String bells = "";

        Told copy() {
            Told copy = new Told();
            copy.offsets.addAll(offsets);
            points.forEach(p -> copy.points.add(new TreeMap<>(p)));
            copy.parts = parts;
            copy.bells = bells;
            return copy;
        }

        boolean isTown(int t) {
            return t >= 0 && t < offsets.size();
        }

        String written(int t) {
            StringBuilder all = new StringBuilder("t" + offsets.get(t) + ";");
            for (Map.Entry<Integer, String> point : points.get(t).entrySet()) {
                boolean polar = point.getValue().length() == 1;
                all.append(polar ? 'x' : 'p').append(point.getKey()).append(',').append(point.getValue()).append(';');
            }
            return all.toString();
        }
    }

    private final Random random;
    private final UnequalHours x = new UnequalHours();
    private final Deque<Told> deeds = new ArrayDeque<>();
    private final Told[] kept = new Told[2];
    private Told now = new Told();
    private int ended = NONE;

    private DeedTest(long seed) {
        random = new Random(seed);
    }

    public static void main(String[] args) {
        for (long seed = 0; seed < 3000; seed++) {
            new DeedTest(seed).run();
        }
        Checks.close("DeedTest");
    }

    private int below(int n) {
        return random.nextInt(n);
    }

    private void run() {
        for (int i = 0; i < 22; i++) {
            step(below(i < 3 ? 3 : 16));
            compare();
        }
        for (int t = 0; t < now.offsets.size(); t++) {
            Checks.due("written " + now.written(t), Checks.written(x, t).equals(now.written(t)), true);
        }
    }

    private void compare() {
        Checks.due("is(0)", x.is(0), now.offsets.size());
        Checks.due("is(1)", x.is(1), now.parts);
        Checks.due("is(2)", x.is(2), now.bells.chars().filter(c -> c == ';').count());
        Checks.due("is(3)", x.is(3), deeds.size());
        Checks.due("is(5)", x.is(5), now.points.stream().mapToInt(TreeMap::size).sum());
        Checks.due("is(6)", x.is(6), now.points.stream().flatMap(p -> p.values().stream()).filter(v -> v.length() == 1)
            .count());
        Checks.due("ended()", x.ended(), ended);
    }

    /** Tells the DEED ahead of its change. */
    private void deed() {
        deeds.addLast(now.copy());
        if (deeds.size() > 12) {
            deeds.removeFirst();
        }
    }

    private void step(int kind) {
        switch (kind) {
            case 0:
            case 1:
                text();
                break;
            case 2:
                bells();
                break;
            case 3:
            case 4:
                Checks.due("offset()", doOne('o', below(6) - 1, below(100000) - 50000, 0, 0), true);
                break;
            case 5:
                Checks.due("parts()", doOne('q', below(4000), 0, 0, 0), true);
                break;
            case 6:
                Checks.due("remove()", doOne('r', below(6) - 1, below(8) - 1, 0, 0), true);
                break;
            case 7:
            case 8:
                Checks.due("set()", doOne('s', below(5), below(21) - 1, below(10), below(10)), true);
                break;
            case 9:
            case 10:
                acts();
                break;
            case 11:
            case 12:
                undo();
                break;
            case 13:
                keep(below(4) - 1);
                break;
            default:
                restore(below(4) - 1);
                break;
        }
    }

    private void text() {
        StringBuilder text = new StringBuilder();
        Told next = now.copy();
        boolean well = true;
        int items = below(3);
        if (below(2) == 0 || next.offsets.isEmpty()) {
            int offset = below(9) - 4;
            text.append('t').append(offset).append(';');
            well = next.offsets.size() < 4;
            next.offsets.add(offset);
            next.points.add(new TreeMap<>());
        }
        for (int i = 0; i < items && well; i++) {
            TreeMap<Integer, String> points = next.points.get(next.points.size() - 1);
            int yday = points.isEmpty() ? below(5) : points.lastKey() + 1 + below(4);
            String hours = below(3) == 0 ? "" + below(2) : below(5) + "," + (5 + below(9));
            text.append(hours.length() == 1 ? 'x' : 'p').append(yday).append(',').append(hours).append(';');
            well = points.size() < 12;
            points.put(yday, hours);
        }
        if (below(6) == 0) {
            text.append('?');
            well = false;
        }
        int got = Checks.text(x, text.toString());
        Checks.due("text() of " + text, got, well ? text.chars().filter(c -> c == ';').count() : NONE);
        if (well) {
            deed();
            now = next;
        }
    }

    private void bells() {
        String told = BELLS[below(BELLS.length)];
        boolean well = below(4) > 0;
        int got = Checks.bells(x, well ? told : told + ";");
        Checks.due("bells() of " + told, got, well ? told.chars().filter(c -> c == ';').count() : NONE);
        if (well) {
            deed();
            now.bells = told;
        }
    }

    /** Does one change to what is told: what its call answers. */
    private int changed(char letter, int a, int b, int c, int d) {
        int was = 0;
        switch (letter) {
            case 'o':
                if (!now.isTown(a) || Math.abs(b) > 43200) {
                    return AWAY;
                }
                deed();
                was = now.offsets.get(a);
                now.offsets.set(a, b);
                return was;
            case 'q':
                if (a < 1 || a > 3600) {
                    return NONE;
                }
                deed();
                was = now.parts;
                now.parts = a;
                return was;
            case 'r':
                if (!now.isTown(a) || !now.points.get(a).containsKey(b)) {
                    return NONE;
                }
                deed();
                now.points.get(a).remove(b);
                return now.points.get(a).size();
            default:
                if (!now.isTown(a) || b < 0 || b > 359 || c < 0 || c >= d || d > 86399
                    || now.points.get(a).size() == 12 && !now.points.get(a).containsKey(b)) {
                    return NONE;
                }
                deed();
                now.points.get(a).put(b, c + "," + d);
                return now.points.get(a).size();
        }
    }

    /** Does one change to both: whether both answer alike. */
    private boolean doOne(char letter, int a, int b, int c, int d) {
        int want = changed(letter, a, b, c, d);
        switch (letter) {
            case 'o':
                return x.offset(a, b) == want;
            case 'q':
                return x.parts(a) == want;
            case 'r':
                return x.remove(a, b) == want;
            default:
                return x.set(a, b, c, d) == want;
        }
    }

    private void acts() {
        StringBuilder text = new StringBuilder();
        int many = below(6);
        int done = 0;
        boolean refused = false;
        for (int i = 0; i < many; i++) {
            char letter = "oqrs".charAt(below(4));
            int a = letter == 'q' ? below(4000) : below(4);
            int[] rest = {below(15), below(20) - 1, below(20)};
            text.append(letter).append(a);
            for (int k = 0; k < (letter == 'q' ? 0 : letter == 's' ? 3 : 1); k++) {
                text.append(',').append(rest[k]);
            }
            text.append(';');
            if (!refused) {
                refused = changed(letter, a, rest[0], rest[1], rest[2]) == (letter == 'o' ? AWAY : NONE);
                done += refused ? 0 : 1;
            }
        }
        Checks.due("acts() of " + text, Checks.acts(x, text.toString()), done);
        ended = refused ? done : NONE;
    }

    private void undo() {
        int want = NONE;
        if (!deeds.isEmpty()) {
            now = deeds.removeLast();
            want = deeds.size();
        }
        Checks.due("undo()", x.undo(), want);
    }

    private void keep(int k) {
        boolean well = k == 0 || k == 1;
        if (well) {
            kept[k] = now.copy();
        }
        Checks.due("keep(" + k + ")", x.keep(k), well);
    }

    private void restore(int k) {
        boolean well = (k == 0 || k == 1) && kept[k] != null;
        if (well) {
            deed();
            now = kept[k].copy();
        }
        Checks.due("restore(" + k + ")", x.restore(k), well);
    }
}
