/**
 * Unequal hours: each LIGHT and each NIGHT of a TOWN has twelve HOURS. The words in capitals are those of the
 * document, ../shared/DOC.md, whose promises tell what each call answers.
 */
public final class UnequalHours {
    public static final int NONE = -1;

    private static final int NOTHING = -2;
    private static final int AWAY = -1000000;
    private static final int NO_JAR = -1000;
    private static final int NO_MARK = -100;

    private static final int DAYS = 36000;
    private static final int YEAR = 360;
    private static final int WEEK = 7;
    private static final int SECONDS = 86400;
    private static final int NOON = 43200;
    private static final int HOURS = 12;
    private static final int MOST_OFFSET = 43200;
    private static final int MOST_PARTS = 3600;
    private static final int MOST_WAY = 864000;

    private static final int LIGHT = 0;
    private static final int NIGHT = 1;

    private static final int MOST_TOWNS = 4;
    private static final int MOST_POINTS = 12;
    private static final int MOST_BELLS = 8;
    private static final int MOST_THINGS = 40;
    private static final int MOST_STROKES = 24;
    private static final int MOST_RINGS = 16;
    private static final int MOST_ACTS = 30;
    private static final int ACT_NUMBERS = 4;
    private static final int MOST_DEEDS = 12;
    private static final int MOST_KEPT = 2;
    private static final int MOST_BYTES = 500;
    private static final int MOST_WRITTEN = 256;
    private static final int MOST_DIGITS = 5;
    private static final int MOST_NUMBER = 99999;

    private final State now = new State();
    private final State draft = new State();
    private final Deeds deeds = new Deeds();
    private final State[] kept = new State[MOST_KEPT];
    private final boolean[] isKept = new boolean[MOST_KEPT];
    private final Tape tape = new Tape();
    private final Acts actList = new Acts();
    private final Written written = new Written();
    private final Span span = new Span();
    private final Span otherSpan = new Span();
    private final Rings rings = new Rings();
    private final Rings otherRings = new Rings();
    private final int[] tally = new int[MOST_BELLS];
    private int latestFault = NONE;
    private int latestEnd = NONE;

    public UnequalHours() {
        for (int k = 0; k < MOST_KEPT; k++) {
            kept[k] = new State();
        }
    }

    // ---- the tape and the texts ----

    public int feed(int a, int b, int c, int d, int e) {
        if (tape.count + 20 > MOST_BYTES) {
            return NONE;
        }
        tape.append(a);
        tape.append(b);
        tape.append(c);
        tape.append(d);
        tape.append(e);
        return tape.count;
    }

    public int end(int n) {
        if (!within(n, 0, tape.count)) {
            return NONE;
        }
        tape.count = n;
        return n;
    }

    public int text() {
        draft.copyFrom(now);
        int items = TownReader.read(tape, draft);
        endOfReading();
        if (items != NONE) {
            adopt(draft);
        }
        return items;
    }

    public int bells() {
        draft.copyFrom(now);
        int many = BellReader.read(tape, draft.bells);
        endOfReading();
        if (many != NONE) {
            adopt(draft);
        }
        return many;
    }

    public int acts() {
        int many = actList.read(tape);
        endOfReading();
        if (many == NONE) {
            return NONE;
        }
        latestEnd = NONE;
        for (int i = 0; i < many; i++) {
            if (!act(i)) {
                latestEnd = i;
                return i;
            }
        }
        return many;
    }

    private void endOfReading() {
        latestFault = tape.fault;
        tape.count = 0;
    }

    private void adopt(State next) {
        deeds.remember(now);
        now.copyFrom(next);
    }

    private boolean act(int i) {
        int one = actList.number(i, 0);
        int two = actList.number(i, 1);
        switch (actList.letter(i)) {
            case 'o':
                return offset(one, two) != AWAY;
            case 'q':
                return parts(one) != NONE;
            case 'r':
                return remove(one, two) != NONE;
            case 's':
                return set(one, two, actList.number(i, 2), actList.number(i, 3)) != NONE;
            default:
                return false;
        }
    }

    public int fault() {
        return latestFault;
    }

    public int ended() {
        return latestEnd;
    }

    // ---- what there is ----

    public int is(int what) {
        switch (what) {
            case 0:
                return now.townCount;
            case 1:
                return now.parts;
            case 2:
                return now.bells.count;
            case 3:
                return deeds.count;
            case 4:
                return tape.count;
            case 5:
                return now.points(false);
            case 6:
                return now.points(true);
            default:
                return NONE;
        }
    }

    public int town(int town, int what) {
        Town place = now.townAt(town);
        if (place == null) {
            return AWAY;
        }
        if (what == 0) {
            return place.offset;
        }
        if (what == 1) {
            return place.count;
        }
        return what < 10 ? AWAY : place.told((what - 10) / 4, (what - 10) % 4);
    }

    public int table(int town, int day, int what) {
        Town place = now.townAt(town);
        if (place == null || !isDay(day) || !within(what, 0, 4)) {
            return NONE;
        }
        span.look(place, day, what == 3 ? NIGHT : LIGHT);
        if (what == 4) {
            return span.polar;
        }
        if (!span.there) {
            return NOTHING;
        }
        if (what == 0) {
            return span.begin;
        }
        return what == 1 ? span.begin + span.length : span.length;
    }

    public int bell(int k, int what) {
        return now.bells.told(k, what);
    }

    // ---- times turned ----

    public int turn(int town, int day, int second, int what) {
        Town place = now.townAt(town);
        if (place == null || !isDay(day) || !isSecond(second) || !within(what, 0, 5)) {
            return NONE;
        }
        if (!span.find(place, day, second)) {
            return NOTHING;
        }
        int since = span.since(day, second);
        int mark = span.placeOf(since, now.parts);
        switch (what) {
            case 0:
                return span.day;
            case 1:
                return span.half;
            case 2:
                return now.hourOf(mark);
            case 3:
                return mark - now.hourOf(mark) * now.parts;
            case 4:
                return mark;
            default:
                return since;
        }
    }

    public int back(int town, int day, int half, int place) {
        Town where = now.townAt(town);
        if (where == null || !isDay(day) || !isPlace(half, place)) {
            return NONE;
        }
        span.look(where, day, half);
        return span.secondOf(place, now.parts);
    }

    public int over(int town, int day, int second, int other, int what) {
        Town from = now.townAt(town);
        Town to = now.townAt(other);
        if (from == null || to == null || !isDay(day) || !isSecond(second) || !within(what, 0, 1)) {
            return AWAY;
        }
        int there = second + ahead(from, to);
        return what == 0 ? day + Math.floorDiv(there, SECONDS) : Math.floorMod(there, SECONDS);
    }

    public int date(int town, int day, int second, int reckoning) {
        Town place = now.townAt(town);
        if (place == null || !isDay(day) || !isSecond(second) || !within(reckoning, 0, 3)) {
            return NONE;
        }
        if (reckoning == 0) {
            return day;
        }
        if (reckoning == 3) {
            return second >= NOON ? day : day - 1;
        }
        span.look(place, day, LIGHT);
        if (!span.there) {
            return NOTHING;
        }
        if (reckoning == 1) {
            return second >= span.begin ? day : day - 1;
        }
        return second >= span.begin + span.length ? day + 1 : day;
    }

    public int middle(int town, int day, int half, int what) {
        Town place = now.townAt(town);
        if (place == null || !isDay(day) || !within(half, LIGHT, NIGHT) || !within(what, 0, 1)) {
            return AWAY;
        }
        span.look(place, day, half);
        if (!span.there) {
            return AWAY;
        }
        int second = span.begin + span.length / 2;
        if (what == 0) {
            return second;
        }
        return second - (half == LIGHT ? NOON : SECONDS);
    }

    public int apart(int town, int day, int half, int one, int other) {
        int first = back(town, day, half, one);
        int second = back(town, day, half, other);
        return first < 0 || second < 0 ? AWAY : second - first;
    }

    public int exact(int town, int day, int half, int what) {
        Town place = now.townAt(town);
        if (place == null || !isDay(day) || !within(half, LIGHT, NIGHT) || !within(what, 0, 1)) {
            return NONE;
        }
        span.look(place, day, half);
        if (!span.there) {
            return NOTHING;
        }
        int common = 1;
        for (int n = 2; n <= HOURS; n++) {
            if (HOURS % n == 0 && span.length % n == 0) {
                common = n;
            }
        }
        return what == 0 ? span.length / common : HOURS / common;
    }

    public int watch(int town, int day, int k, int what) {
        Town place = now.townAt(town);
        if (place == null || !isDay(day) || !within(k, 0, 3) || !within(what, 0, 1)) {
            return NONE;
        }
        span.look(place, day, NIGHT);
        if (!span.there) {
            return NOTHING;
        }
        int begin = span.hourBegins(3 * k);
        return what == 0 ? begin : span.hourBegins(3 * k + 3) - begin;
    }

    public int until(int town, int day, int second, int half, int place) {
        Town where = now.townAt(town);
        if (where == null || !isDay(day) || !isSecond(second) || !isPlace(half, place)) {
            return NONE;
        }
        for (int shift = -1; shift <= 2; shift++) {
            span.look(where, day + shift, half);
            int then = span.secondOf(place, now.parts);
            if (then != NOTHING && then + shift * SECONDS >= second) {
                return then + shift * SECONDS - second;
            }
        }
        return NOTHING;
    }

    // ---- bells ----

    public int ring(int town, int day, int i, int what) {
        Town place = now.townAt(town);
        if (place == null || !isDay(day)) {
            return NONE;
        }
        rings.gather(now, town, day);
        if (i == NONE) {
            return rings.count;
        }
        if (!within(i, 0, rings.count - 1)) {
            return NONE;
        }
        switch (what) {
            case 0:
                return rings.second[i];
            case 1:
                return rings.bell[i];
            case 2:
                return now.bells.strokesOf(rings.bell[i]);
            default:
                return NONE;
        }
    }

    public int strokes(int town, int day) {
        if (now.townAt(town) == null || !isDay(day)) {
            return NONE;
        }
        rings.gather(now, town, day);
        return rings.strokesBy(now.bells);
    }

    public int total(int town, int from, int many) {
        if (now.townAt(town) == null || !isDay(from) || !within(many, 1, 60)) {
            return NONE;
        }
        int sum = 0;
        for (int day = from; day < from + many && day < DAYS; day++) {
            rings.gather(now, town, day);
            sum += rings.strokesBy(now.bells);
        }
        return sum;
    }

    public int soonest(int town, int day, int second) {
        if (now.townAt(town) == null || !isDay(day) || !isSecond(second)) {
            return NONE;
        }
        rings.gather(now, town, day);
        for (int i = 0; i < rings.count; i++) {
            if (rings.second[i] >= second) {
                return rings.second[i] - second;
            }
        }
        rings.gather(now, town, day + 1);
        return rings.count > 0 ? SECONDS + rings.second[0] - second : NOTHING;
    }

    public int clash(int town, int day, int seconds) {
        if (now.townAt(town) == null || !isDay(day) || !within(seconds, 0, SECONDS)) {
            return NONE;
        }
        rings.gather(now, town, day);
        int many = 0;
        for (int i = 1; i < rings.count; i++) {
            if (rings.second[i] - rings.second[i - 1] < seconds) {
                many++;
            }
        }
        return many;
    }

    public int busiest(int town, int from, int many, int what) {
        if (now.townAt(town) == null || !isDay(from) || !within(many, 1, 60) || !within(what, 0, 1)) {
            return NONE;
        }
        for (int k = 0; k < tally.length; k++) {
            tally[k] = 0;
        }
        for (int day = from; day < from + many && day < DAYS; day++) {
            rings.gather(now, town, day);
            rings.countInto(tally);
        }
        int chosen = NONE;
        int most = 0;
        for (int k = 0; k < tally.length; k++) {
            if (tally[k] > most) {
                chosen = k;
                most = tally[k];
            }
        }
        return what == 0 ? chosen : most;
    }

    public int quiet(int town, int day, int what) {
        if (now.townAt(town) == null || !isDay(day) || !within(what, 0, 1)) {
            return NONE;
        }
        rings.gather(now, town, day);
        int latest = 0;
        int begin = 0;
        int longest = NONE;
        for (int i = 0; i <= rings.count; i++) {
            int next = i < rings.count ? rings.second[i] : SECONDS;
            if (next - latest > longest) {
                begin = latest;
                longest = next - latest;
            }
            latest = next;
        }
        return what == 0 ? begin : longest;
    }

    // ---- days and seasons of one town ----

    public int jar(int town, int one, int other, int second, int what) {
        Town place = now.townAt(town);
        if (place == null || !isDay(one) || !isDay(other) || !isSecond(second) || !within(what, 0, 1)) {
            return NO_JAR;
        }
        span.look(place, one, LIGHT);
        otherSpan.look(place, other, LIGHT);
        int since = second - otherSpan.begin;
        if (!span.there || !otherSpan.there || !within(since, 0, otherSpan.length - 1)) {
            return NO_MARK;
        }
        int mark = Math.min(span.placeOf(since, 1), HOURS);
        return what == 0 ? mark : mark - otherSpan.placeOf(since, 1);
    }

    public int work(int town, int from, int to, int a, int b) {
        Town place = now.townAt(town);
        if (place == null || !isDay(from) || !isDay(to) || !within(to - from, 0, YEAR - 1)) {
            return NONE;
        }
        if (!within(a, 0, HOURS) || !within(b, 0, HOURS) || a >= b) {
            return NONE;
        }
        int sum = 0;
        for (int day = from; day <= to; day++) {
            span.look(place, day, LIGHT);
            if (span.there) {
                sum += span.hourBegins(b) - span.hourBegins(a);
            }
        }
        return sum;
    }

    public int season(int town, int what) {
        Town place = now.townAt(town);
        if (place == null || !within(what, 0, 3)) {
            return NONE;
        }
        int chosen = NOTHING;
        int most = 0;
        int polar = 0;
        for (int day = 0; day < YEAR; day++) {
            span.look(place, day, LIGHT);
            int worth = seasonWorth(span.length, what);
            if (!span.there) {
                polar++;
            } else if (chosen == NOTHING || worth > most) {
                chosen = day;
                most = worth;
            }
        }
        return what == 3 ? polar : chosen;
    }

    private static int seasonWorth(int length, int what) {
        if (what == 0) {
            return length;
        }
        return what == 1 ? -length : -Math.abs(length - NOON);
    }

    public int best(int town, int from, int many, int hour, int what) {
        Town place = now.townAt(town);
        if (place == null || !isDay(from) || !within(many, 1, YEAR)) {
            return NONE;
        }
        if (!within(hour, 0, HOURS - 1) || !within(what, 0, 2)) {
            return NONE;
        }
        int chosen = NOTHING;
        int most = 0;
        for (int day = from; day < from + many && day < DAYS; day++) {
            span.look(place, day, LIGHT);
            int worth = hourWorth(span.hourBegins(hour), span.hourBegins(hour + 1), what);
            if (span.there && (chosen == NOTHING || worth > most)) {
                chosen = day;
                most = worth;
            }
        }
        return chosen;
    }

    private static int hourWorth(int begin, int end, int what) {
        if (what == 0) {
            return end - begin;
        }
        return what == 1 ? -begin : begin;
    }

    public int candle(int town, int one, int from) {
        Town place = now.townAt(town);
        if (place == null || !isDay(one) || !isDay(from)) {
            return NONE;
        }
        span.look(place, one, LIGHT);
        if (!span.there) {
            return NOTHING;
        }
        int left = span.length;
        for (int day = from; day < from + YEAR && day < DAYS; day++) {
            span.look(place, day, LIGHT);
            if (span.there && left <= span.length / HOURS) {
                return day;
            }
            left -= span.length / HOURS;
        }
        return NOTHING;
    }

    public int alike(int town, int one, int from) {
        Town place = now.townAt(town);
        if (place == null || !isDay(one) || !isDay(from)) {
            return NONE;
        }
        otherSpan.look(place, one, LIGHT);
        if (!otherSpan.there) {
            return NOTHING;
        }
        for (int day = from; day < from + YEAR && day < DAYS; day++) {
            span.look(place, day, LIGHT);
            if (span.there && span.length == otherSpan.length) {
                return day;
            }
        }
        return NOTHING;
    }

    public int growth(int town, int from, int many, int what) {
        Town place = now.townAt(town);
        if (place == null || !isDay(from) || !within(many, 1, YEAR) || !within(what, 0, 2)) {
            return AWAY;
        }
        int sum = 0;
        int most = AWAY;
        int chosen = NOTHING;
        for (int day = from; day < from + many && day < DAYS; day++) {
            otherSpan.look(place, day - 1, LIGHT);
            span.look(place, day, LIGHT);
            if (!otherSpan.there || !span.there) {
                continue;
            }
            int more = span.length - otherSpan.length;
            sum += more;
            if (more > most) {
                most = more;
                chosen = day;
            }
        }
        if (what == 0) {
            return sum;
        }
        return what == 1 ? most : chosen;
    }

    public int spare(int town) {
        Town place = now.townAt(town);
        if (place == null) {
            return NONE;
        }
        int many = 0;
        for (int i = 0; i < place.count && place.count > 1; i++) {
            if (span.standsWithout(place, i)) {
                many++;
            }
        }
        return many;
    }

    public int spread(int day, int what) {
        if (!isDay(day) || !within(what, 0, 2)) {
            return NONE;
        }
        int longest = NOTHING;
        int shortest = NOTHING;
        int most = 0;
        int least = 0;
        for (int k = 0; k < now.townCount; k++) {
            span.look(now.townAt(k), day, LIGHT);
            if (span.there && (longest == NOTHING || span.length > most)) {
                longest = k;
                most = span.length;
            }
            if (span.there && (shortest == NOTHING || span.length < least)) {
                shortest = k;
                least = span.length;
            }
        }
        if (what == 0) {
            return longest;
        }
        if (what == 1) {
            return shortest;
        }
        return longest == NOTHING ? NOTHING : most - least;
    }

    // ---- two towns ----

    public int meet(int key, int a, int b, int day, int what) {
        Town one = firstOf(key);
        Town two = secondOf(key);
        if (one == null || two == null || !isDay(day) || !within(what, 0, 1)) {
            return AWAY;
        }
        if (!within(a, 0, 2 * HOURS - 1) || !within(b, 0, 2 * HOURS - 1)) {
            return AWAY;
        }
        span.look(one, day, a / HOURS);
        int begin = span.hourBegins(a % HOURS);
        int end = span.hourBegins(a % HOURS + 1);
        // A NIGHT ends up to two days on, and the clocks are at most a day apart: no HOUR further off can touch.
        for (int shift = -3; shift <= 3 && span.there; shift++) {
            otherSpan.look(two, day + shift, b / HOURS);
            int later = shift * SECONDS - ahead(one, two);
            int from = Math.max(begin, otherSpan.hourBegins(b % HOURS) + later);
            int to = Math.min(end, otherSpan.hourBegins(b % HOURS + 1) + later);
            if (otherSpan.there && from < to) {
                return what == 0 ? from : to - from;
            }
        }
        return AWAY;
    }

    public int shared(int key, int day, int what) {
        Town one = firstOf(key);
        Town two = secondOf(key);
        if (one == null || two == null || !isDay(day) || !within(what, 0, 1)) {
            return NONE;
        }
        span.look(one, day, LIGHT);
        int sum = 0;
        int many = 0;
        for (int shift = -1; shift <= 1 && span.there; shift++) {
            otherSpan.look(two, day + shift, LIGHT);
            int begin = otherSpan.begin + shift * SECONDS - ahead(one, two);
            int from = Math.max(span.begin, begin);
            int to = Math.min(span.begin + span.length, begin + otherSpan.length);
            if (otherSpan.there && from < to) {
                sum += to - from;
                many++;
            }
        }
        return what == 0 ? sum : many;
    }

    public int arrive(int key, int day, int second, int takes, int what) {
        Town one = firstOf(key);
        Town two = secondOf(key);
        if (one == null || two == null || !isDay(day) || !isSecond(second)) {
            return NONE;
        }
        if (!within(takes, 0, MOST_WAY) || !within(what, 0, 3)) {
            return NONE;
        }
        int then = second + takes + ahead(one, two);
        int thenDay = day + Math.floorDiv(then, SECONDS);
        int thenSecond = Math.floorMod(then, SECONDS);
        if (!isDay(thenDay)) {
            return NOTHING;
        }
        if (what == 0) {
            return thenDay;
        }
        if (what == 1) {
            return thenSecond;
        }
        return turn(key % MOST_TOWNS, thenDay, thenSecond, what - 1);
    }

    public int shows(int key, int day, int half, int place, int what) {
        Town one = firstOf(key);
        Town two = secondOf(key);
        if (one == null || two == null || !within(what, 0, 2)) {
            return NONE;
        }
        int second = back(key / MOST_TOWNS, day, half, place);
        if (second < 0) {
            return second;
        }
        int then = second + ahead(one, two);
        int thenDay = day + Math.floorDiv(then, SECONDS);
        if (!isDay(thenDay)) {
            return NOTHING;
        }
        return turn(key % MOST_TOWNS, thenDay, Math.floorMod(then, SECONDS), what == 2 ? 4 : what);
    }

    public int same(int key, int day) {
        Town one = firstOf(key);
        Town two = secondOf(key);
        if (one == null || two == null || !isDay(day)) {
            return NONE;
        }
        rings.gather(now, key / MOST_TOWNS, day);
        int many = 0;
        for (int shift = -1; shift <= 1; shift++) {
            otherRings.gather(now, key % MOST_TOWNS, day + shift);
            for (int i = 0; i < rings.count; i++) {
                if (otherRings.hasOneAt(rings.second[i] + ahead(one, two) - shift * SECONDS)) {
                    many++;
                }
            }
        }
        return many;
    }

    public int lag(int key, int day, int half, int place) {
        Town one = firstOf(key);
        Town two = secondOf(key);
        if (one == null || two == null) {
            return AWAY;
        }
        int first = back(key / MOST_TOWNS, day, half, place);
        int second = back(key % MOST_TOWNS, day, half, place);
        return first < 0 || second < 0 ? AWAY : second - first - ahead(one, two);
    }

    // ---- changes ----

    public int offset(int town, int n) {
        Town place = now.townAt(town);
        if (place == null || !within(n, -MOST_OFFSET, MOST_OFFSET)) {
            return AWAY;
        }
        deeds.remember(now);
        int was = place.offset;
        place.offset = n;
        return was;
    }

    public int parts(int n) {
        if (!within(n, 1, MOST_PARTS)) {
            return NONE;
        }
        deeds.remember(now);
        int was = now.parts;
        now.parts = n;
        return was;
    }

    public int set(int town, int yday, int dawn, int dusk) {
        Town place = now.townAt(town);
        if (place == null || !within(yday, 0, YEAR - 1)) {
            return NONE;
        }
        if (!isSecond(dawn) || !isSecond(dusk) || dawn >= dusk) {
            return NONE;
        }
        if (place.pointOn(yday) == NONE && place.count >= MOST_POINTS) {
            return NONE;
        }
        deeds.remember(now);
        place.putPoint(yday, dawn, dusk);
        return place.count;
    }

    public int remove(int town, int yday) {
        Town place = now.townAt(town);
        if (place == null || place.pointOn(yday) == NONE) {
            return NONE;
        }
        deeds.remember(now);
        place.dropPoint(place.pointOn(yday));
        return place.count;
    }

    public int undo() {
        return deeds.takeBack(now) ? deeds.count : NONE;
    }

    public boolean keep(int k) {
        if (!within(k, 0, MOST_KEPT - 1)) {
            return false;
        }
        kept[k].copyFrom(now);
        isKept[k] = true;
        return true;
    }

    public boolean restore(int k) {
        if (!within(k, 0, MOST_KEPT - 1) || !isKept[k]) {
            return false;
        }
        adopt(kept[k]);
        return true;
    }

    public int write(int town) {
        Town place = now.townAt(town);
        if (place == null) {
            return NONE;
        }
        written.compose(place);
        return written.count;
    }

    public int octet(int k) {
        return within(k, 0, written.count - 1) ? written.bytes[k] : NONE;
    }

    // ---- small questions ----

    private static boolean within(int n, int low, int high) {
        return n >= low && n <= high;
    }

    private static boolean isDay(int day) {
        return within(day, 0, DAYS - 1);
    }

    private static boolean isSecond(int second) {
        return within(second, 0, SECONDS - 1);
    }

    private boolean isPlace(int half, int place) {
        return within(half, LIGHT, NIGHT) && within(place, 0, HOURS * now.parts - 1);
    }

    private Town firstOf(int key) {
        return within(key, 0, MOST_TOWNS * MOST_TOWNS - 1) ? now.townAt(key / MOST_TOWNS) : null;
    }

    private Town secondOf(int key) {
        return within(key, 0, MOST_TOWNS * MOST_TOWNS - 1) ? now.townAt(key % MOST_TOWNS) : null;
    }

    /** How many seconds the second town's time is ahead of the first one's. */
    private static int ahead(Town one, Town two) {
        return two.offset - one.offset;
    }

    /** A TOWN: its OFFSET and its POINTS by YDAYS. What a POINT has not (DAWN and DUSK, or POLAR) is NONE. */
    private static final class Town {
        int offset;
        int count;
        final int[] yday = new int[MOST_POINTS];
        final int[] dawn = new int[MOST_POINTS];
        final int[] dusk = new int[MOST_POINTS];
        final int[] polar = new int[MOST_POINTS];

        void clear(int newOffset) {
            offset = newOffset;
            count = 0;
        }

        void copyFrom(Town from) {
            offset = from.offset;
            count = from.count;
            System.arraycopy(from.yday, 0, yday, 0, MOST_POINTS);
            System.arraycopy(from.dawn, 0, dawn, 0, MOST_POINTS);
            System.arraycopy(from.dusk, 0, dusk, 0, MOST_POINTS);
            System.arraycopy(from.polar, 0, polar, 0, MOST_POINTS);
        }

        int told(int i, int what) {
            if (!within(i, 0, count - 1)) {
                return AWAY;
            }
            switch (what) {
                case 0:
                    return yday[i];
                case 1:
                    return dawn[i];
                case 2:
                    return dusk[i];
                default:
                    return polar[i];
            }
        }

        int pointOn(int day) {
            for (int i = 0; i < count; i++) {
                if (yday[i] == day) {
                    return i;
                }
            }
            return NONE;
        }

        int latestYday() {
            return within(count, 1, MOST_POINTS) ? yday[count - 1] : NONE;
        }

        int polarPoints() {
            int many = 0;
            for (int i = 0; i < count; i++) {
                if (polar[i] != NONE) {
                    many++;
                }
            }
            return many;
        }

        void appendPoint(int day, int newDawn, int newDusk, int newPolar) {
            if (count < MOST_POINTS) {
                fill(count, day, newDawn, newDusk, newPolar);
                count++;
            }
        }

        void putPoint(int day, int newDawn, int newDusk) {
            int i = pointOn(day);
            if (i == NONE && count < MOST_POINTS) {
                i = openAt(day);
            }
            if (i != NONE) {
                fill(i, day, newDawn, newDusk, NONE);
            }
        }

        private int openAt(int day) {
            int i = count;
            for (; i > 0 && yday[i - 1] > day; i--) {
                fill(i, yday[i - 1], dawn[i - 1], dusk[i - 1], polar[i - 1]);
            }
            count++;
            return i;
        }

        void dropPoint(int i) {
            if (!within(i, 0, count - 1)) {
                return;
            }
            for (int k = i; k < count - 1; k++) {
                fill(k, yday[k + 1], dawn[k + 1], dusk[k + 1], polar[k + 1]);
            }
            count--;
        }

        private void fill(int i, int day, int newDawn, int newDusk, int newPolar) {
            if (!within(i, 0, MOST_POINTS - 1)) {
                return;
            }
            yday[i] = day;
            dawn[i] = newDawn;
            dusk[i] = newDusk;
            polar[i] = newPolar;
        }
    }

    /** BELLS; the THINGS of all CONDS stand in one row, each with the sign ahead of it, as there are no brackets. */
    private static final class Bells {
        int count;
        int thingCount;
        final int[] half = new int[MOST_BELLS];
        final int[] hour = new int[MOST_BELLS];
        final int[] part = new int[MOST_BELLS];
        final int[] strokes = new int[MOST_BELLS];
        final int[] firstThing = new int[MOST_BELLS];
        final int[] things = new int[MOST_BELLS];
        final int[] signAhead = new int[MOST_THINGS];
        final int[] kind = new int[MOST_THINGS];
        final int[] value = new int[MOST_THINGS];

        void clear() {
            count = 0;
            thingCount = 0;
        }

        void copyFrom(Bells from) {
            count = from.count;
            thingCount = from.thingCount;
            System.arraycopy(from.half, 0, half, 0, MOST_BELLS);
            System.arraycopy(from.hour, 0, hour, 0, MOST_BELLS);
            System.arraycopy(from.part, 0, part, 0, MOST_BELLS);
            System.arraycopy(from.strokes, 0, strokes, 0, MOST_BELLS);
            System.arraycopy(from.firstThing, 0, firstThing, 0, MOST_BELLS);
            System.arraycopy(from.things, 0, things, 0, MOST_BELLS);
            System.arraycopy(from.signAhead, 0, signAhead, 0, MOST_THINGS);
            System.arraycopy(from.kind, 0, kind, 0, MOST_THINGS);
            System.arraycopy(from.value, 0, value, 0, MOST_THINGS);
        }

        int told(int k, int what) {
            if (!within(k, 0, count - 1)) {
                return NONE;
            }
            switch (what) {
                case 0:
                    return half[k];
                case 1:
                    return hour[k];
                case 2:
                    return part[k];
                case 3:
                    return strokes[k];
                case 4:
                    return things[k];
                default:
                    return NONE;
            }
        }

        int strokesOf(int k) {
            return within(k, 0, count - 1) ? strokes[k] : 0;
        }

        void addBell(int newHalf, int newHour, int newPart, int newStrokes) {
            if (count >= MOST_BELLS) {
                return;
            }
            half[count] = newHalf;
            hour[count] = newHour;
            part[count] = newPart;
            strokes[count] = newStrokes;
            firstThing[count] = thingCount;
            things[count] = 0;
            count++;
        }

        /** A THING more of the latest BELL's COND. */
        void addThing(int sign, int newKind, int newValue) {
            if (thingCount >= MOST_THINGS || !within(count, 1, MOST_BELLS)) {
                return;
            }
            signAhead[thingCount] = sign;
            kind[thingCount] = newKind;
            value[thingCount] = newValue;
            thingCount++;
            things[count - 1]++;
        }

        /** Whether COND of a BELL holds in a LIGHT or NIGHT. */
        boolean holds(int k, int town, Span in) {
            if (!within(k, 0, count - 1)) {
                return false;
            }
            boolean both = true;
            int left = firstThing[k];
            int end = Math.min(firstThing[k] + things[k], MOST_THINGS);
            for (int i = firstThing[k]; i < end; i++) {
                int sign = signAhead[i];
                if (sign == '|') {
                    if (both) {
                        return true;
                    }
                    both = true;
                }
                if (joinsTests(sign)) {
                    left = i;
                }
                if (isTest(sign)) {
                    both = both && compares(sum(left, end, town, in), sign, sum(i, end, town, in));
                }
            }
            return both;
        }

        static boolean isTest(int sign) {
            return sign == '<' || sign == '>' || sign == '=';
        }

        static boolean joinsTests(int sign) {
            return sign == '&' || sign == '|';
        }

        static boolean joinsThings(int sign) {
            return sign == '+' || sign == '-' || joinsFactors(sign);
        }

        private static boolean joinsFactors(int sign) {
            return sign == '*' || sign == '/';
        }

        /** The SUM that begins with a THING; the sign ahead of that one is not the SUM's. */
        private int sum(int from, int end, int town, Span in) {
            int sum = 0;
            for (int i = from; i < end && (i == from || joinsThings(signAhead[i])); i++) {
                if (!joinsFactors(signAhead[i])) {
                    int product = product(i, end, town, in);
                    sum = signAhead[i] == '-' ? sum - product : sum + product;
                }
            }
            return sum;
        }

        private int product(int from, int end, int town, Span in) {
            int product = worth(from, town, in);
            for (int i = from + 1; i < end && joinsFactors(signAhead[i]); i++) {
                int thing = worth(i, town, in);
                if (signAhead[i] == '*') {
                    product *= thing;
                } else {
                    product = thing == 0 ? 0 : product / thing;
                }
            }
            return product;
        }

        private int worth(int i, int town, Span in) {
            switch (kind[i]) {
                case 'w':
                    return in.day % WEEK;
                case 'y':
                    return in.day % YEAR;
                case 'l':
                    return in.length;
                case 't':
                    return town;
                case 'z':
                    return in.day;
                default:
                    return value[i];
            }
        }

        private static boolean compares(int left, int test, int right) {
            if (test == '<') {
                return left < right;
            }
            return test == '>' ? left > right : left == right;
        }
    }

    /** What keep(), restore() and undo() carry: TOWNS, PARTS, BELLS. */
    private static final class State {
        int townCount;
        int parts = 60;
        final Town[] towns = new Town[MOST_TOWNS];
        final Bells bells = new Bells();

        State() {
            for (int k = 0; k < MOST_TOWNS; k++) {
                towns[k] = new Town();
            }
        }

        void copyFrom(State from) {
            townCount = from.townCount;
            parts = from.parts;
            for (int k = 0; k < MOST_TOWNS; k++) {
                towns[k].copyFrom(from.towns[k]);
            }
            bells.copyFrom(from.bells);
        }

        Town townAt(int k) {
            return within(k, 0, townCount - 1) ? towns[k] : null;
        }

        Town latestTown() {
            return townAt(townCount - 1);
        }

        /** The HOUR of a PLACE. */
        int hourOf(int place) {
            return parts > 0 ? place / parts : 0;
        }

        void addTown(int offset) {
            if (townCount < MOST_TOWNS) {
                towns[townCount].clear(offset);
                townCount++;
            }
        }

        int points(boolean polarAlone) {
            int many = 0;
            for (int k = 0; k < townCount; k++) {
                many += polarAlone ? towns[k].polarPoints() : towns[k].count;
            }
            return many;
        }
    }

    /** The latest DEEDS, each as what was ahead of it, in a ring that forgets the oldest. */
    private static final class Deeds {
        int count;
        private int next;
        private final State[] before = new State[MOST_DEEDS];

        Deeds() {
            for (int i = 0; i < MOST_DEEDS; i++) {
                before[i] = new State();
            }
        }

        void remember(State now) {
            before[next].copyFrom(now);
            next = (next + 1) % MOST_DEEDS;
            count = Math.min(count + 1, MOST_DEEDS);
        }

        boolean takeBack(State now) {
            if (count == 0) {
                return false;
            }
            next = (next + MOST_DEEDS - 1) % MOST_DEEDS;
            now.copyFrom(before[next]);
            count--;
            return true;
        }
    }

    /** The tape, and how far a text on it has been read: at is the place of sign, which is NONE behind the end. */
    private static final class Tape {
        int count;
        int at;
        int sign = NONE;
        int number;
        int fault = NONE;
        private final int[] bytes = new int[MOST_BYTES];

        void append(int four) {
            for (int shift = 24; shift >= 0 && count < MOST_BYTES; shift -= 8) {
                bytes[count] = (four >>> shift) & 255;
                count++;
            }
        }

        void rewind() {
            fault = NONE;
            at = -1;
            step();
        }

        void step() {
            at++;
            sign = at >= 0 && at < count && at < MOST_BYTES ? bytes[at] : NONE;
        }

        boolean hasMore() {
            return at < count;
        }

        boolean fail() {
            fault = at;
            return false;
        }

        boolean pass(int wanted) {
            if (sign != wanted) {
                return fail();
            }
            step();
            return true;
        }

        boolean onDigit() {
            return sign >= '0' && sign <= '9';
        }

        boolean readNumber(boolean mayBeNegative, int low, int high) {
            int from = at;
            boolean negative = mayBeNegative && sign == '-';
            if (negative) {
                step();
            }
            int size = 0;
            int digits = 0;
            for (; digits < MOST_DIGITS && onDigit(); digits++) {
                size = size * 10 + sign - '0';
                step();
            }
            if (digits == 0 || onDigit()) {
                return fail();
            }
            number = negative ? -size : size;
            if (number < low || number > high) {
                fault = from;
                return false;
            }
            return true;
        }
    }

    /** Reads THE TEXT into a state, which is of no use if there is a FAULT. */
    private static final class TownReader {
        static int read(Tape tape, State into) {
            tape.rewind();
            int items = 0;
            for (; items < MOST_BYTES && tape.hasMore(); items++) {
                if (!readItem(tape, into) || !tape.pass(';')) {
                    return NONE;
                }
            }
            return items;
        }

        private static boolean readItem(Tape tape, State into) {
            int letter = tape.sign;
            if (letter == 't') {
                return readTown(tape, into);
            }
            Town town = into.latestTown();
            boolean isPoint = letter == 'p' || letter == 'x';
            if (!isPoint || town == null || town.count >= MOST_POINTS) {
                return tape.fail();
            }
            tape.step();
            if (!tape.readNumber(true, town.latestYday() + 1, YEAR - 1)) {
                return false;
            }
            int yday = tape.number;
            return tape.pass(',') && (letter == 'p' ? readHours(tape, town, yday) : readKind(tape, town, yday));
        }

        private static boolean readTown(Tape tape, State into) {
            if (into.townCount >= MOST_TOWNS) {
                return tape.fail();
            }
            tape.step();
            if (!tape.readNumber(true, -MOST_OFFSET, MOST_OFFSET)) {
                return false;
            }
            into.addTown(tape.number);
            return true;
        }

        private static boolean readHours(Tape tape, Town town, int yday) {
            if (!tape.readNumber(true, 0, SECONDS - 1)) {
                return false;
            }
            int dawn = tape.number;
            if (!tape.pass(',') || !tape.readNumber(true, dawn + 1, SECONDS - 1)) {
                return false;
            }
            town.appendPoint(yday, dawn, tape.number, NONE);
            return true;
        }

        private static boolean readKind(Tape tape, Town town, int yday) {
            if (!tape.readNumber(true, 0, 1)) {
                return false;
            }
            town.appendPoint(yday, NONE, NONE, tape.number);
            return true;
        }
    }

    /** Reads BELLS, which are of no use if there is a FAULT. */
    private static final class BellReader {
        static int read(Tape tape, Bells into) {
            tape.rewind();
            into.clear();
            for (int i = 0; i < MOST_BYTES && tape.hasMore(); i++) {
                if (!readBell(tape, into) || !tape.pass(';')) {
                    return NONE;
                }
            }
            return into.count;
        }

        private static boolean readBell(Tape tape, Bells into) {
            int letter = tape.sign;
            if (into.count >= MOST_BELLS || letter != 'd' && letter != 'n') {
                return tape.fail();
            }
            tape.step();
            if (!tape.readNumber(false, 0, HOURS - 1)) {
                return false;
            }
            int hour = tape.number;
            int part = 0;
            if (tape.sign == '.') {
                tape.step();
                if (!tape.readNumber(false, 0, MOST_PARTS - 1)) {
                    return false;
                }
                part = tape.number;
            }
            if (!tape.pass('*') || !tape.readNumber(false, 1, MOST_STROKES)) {
                return false;
            }
            into.addBell(letter == 'd' ? LIGHT : NIGHT, hour, part, tape.number);
            if (tape.sign != '?') {
                return true;
            }
            tape.step();
            return readCond(tape, into);
        }

        private static boolean readCond(Tape tape, Bells into) {
            boolean tested = false;
            int sign = 0;
            for (int i = 0; i < MOST_BYTES; i++) {
                if (!readThing(tape, into, sign)) {
                    return false;
                }
                sign = tape.sign;
                boolean isTest = Bells.isTest(sign);
                boolean joinsTests = Bells.joinsTests(sign);
                if (!isTest && !joinsTests && !Bells.joinsThings(sign)) {
                    // A COND may end only behind a whole TEST; the ; itself is the BELL's.
                    return tested || tape.fail();
                }
                if (isTest && tested || joinsTests && !tested) {
                    return tape.fail();
                }
                tested = isTest || tested && !joinsTests;
                tape.step();
            }
            return tape.fail();
        }

        private static boolean readThing(Tape tape, Bells into, int signAhead) {
            int letter = tape.sign;
            boolean isLetter = letter == 'w' || letter == 'y' || letter == 'l' || letter == 't' || letter == 'z';
            if (into.thingCount >= MOST_THINGS || !isLetter && !tape.onDigit()) {
                return tape.fail();
            }
            if (isLetter) {
                tape.step();
                into.addThing(signAhead, letter, 0);
                return true;
            }
            if (!tape.readNumber(false, 0, MOST_NUMBER)) {
                return false;
            }
            into.addThing(signAhead, 0, tape.number);
            return true;
        }
    }

    /** ACTS, read whole before the first is done. */
    private static final class Acts {
        private int count;
        private final int[] letters = new int[MOST_ACTS];
        private final int[] numbers = new int[MOST_ACTS * ACT_NUMBERS];

        int read(Tape tape) {
            tape.rewind();
            count = 0;
            for (int i = 0; i < MOST_BYTES && tape.hasMore(); i++) {
                if (!readAct(tape) || !tape.pass(';')) {
                    return NONE;
                }
            }
            return count;
        }

        private boolean readAct(Tape tape) {
            int wanted = numbersOf(tape.sign);
            if (count >= MOST_ACTS || wanted == 0) {
                return tape.fail();
            }
            letters[count] = tape.sign;
            tape.step();
            for (int i = 0; i < wanted && i < ACT_NUMBERS; i++) {
                if (i > 0 && !tape.pass(',') || !tape.readNumber(true, -MOST_NUMBER, MOST_NUMBER)) {
                    return false;
                }
                numbers[count * ACT_NUMBERS + i] = tape.number;
            }
            count++;
            return true;
        }

        private static int numbersOf(int letter) {
            switch (letter) {
                case 'q':
                    return 1;
                case 'o':
                case 'r':
                    return 2;
                case 's':
                    return 4;
                default:
                    return 0;
            }
        }

        int letter(int i) {
            return within(i, 0, count - 1) ? letters[i] : NONE;
        }

        int number(int i, int k) {
            return within(i, 0, count - 1) && within(k, 0, ACT_NUMBERS - 1) ? numbers[i * ACT_NUMBERS + k] : NONE;
        }
    }

    /** What was written latest. */
    private static final class Written {
        int count;
        final int[] bytes = new int[MOST_WRITTEN];

        void compose(Town town) {
            count = 0;
            put('t');
            putNumber(town.offset);
            put(';');
            for (int i = 0; i < town.count && i < MOST_POINTS; i++) {
                boolean isPolar = town.polar[i] != NONE;
                put(isPolar ? 'x' : 'p');
                putNumber(town.yday[i]);
                put(',');
                putNumber(isPolar ? town.polar[i] : town.dawn[i]);
                if (!isPolar) {
                    put(',');
                    putNumber(town.dusk[i]);
                }
                put(';');
            }
        }

        private void putNumber(int n) {
            if (n < 0) {
                put('-');
            }
            int size = Math.abs(n);
            for (int unit = 10000; unit > 0; unit /= 10) {
                if (size >= unit || unit == 1) {
                    put('0' + size / unit % 10);
                }
            }
        }

        private void put(int sign) {
            if (count < MOST_WRITTEN) {
                bytes[count] = sign;
                count++;
            }
        }
    }

    /** A LIGHT or NIGHT of a DAY, if it is there, and TABLE as it was read latest. */
    private static final class Span {
        boolean there;
        int day;
        int half;
        int begin;
        int length;
        int polar;
        private int dawn;
        private int dusk;

        void look(Town town, int ofDay, int ofHalf) {
            there = false;
            day = ofDay;
            half = ofHalf;
            begin = 0;
            length = 0;
            if (town == null || !isDay(day) || half == NIGHT && !isDay(day + 1)) {
                return;
            }
            readTable(town, day % YEAR);
            if (polar != NONE) {
                return;
            }
            int from = half == LIGHT ? dawn : dusk;
            int to = dusk;
            if (half == NIGHT) {
                readTable(town, (day + 1) % YEAR);
                if (polar != NONE) {
                    return;
                }
                to = SECONDS + dawn;
            }
            there = true;
            begin = from;
            length = to - from;
        }

        /** Looks up the LIGHT or NIGHT to which a second of a DAY belongs. */
        boolean find(Town town, int ofDay, int second) {
            look(town, ofDay, LIGHT);
            if (there && second < begin) {
                look(town, ofDay - 1, NIGHT);
            } else if (there && second >= begin + length) {
                look(town, ofDay, NIGHT);
            }
            return there;
        }

        int since(int ofDay, int second) {
            return second + (ofDay - day) * SECONDS - begin;
        }

        /** The PLACE of so many seconds since it began; with 1 for PARTS the HOUR. */
        int placeOf(int since, int parts) {
            return length > 0 ? (int) ((long) since * HOURS * parts / length) : 0;
        }

        /** BACK from a PLACE; NOTHING if there is none such. */
        int secondOf(int place, int parts) {
            if (!there || parts < 1) {
                return NOTHING;
            }
            long all = (long) HOURS * parts;
            long since = ((long) place * length + all - 1) / all;
            return since < length ? begin + (int) since : NOTHING;
        }

        /** BACK of an HOUR's PLACE, which does not hang on PARTS; its end if there is none such, and of 12. */
        int hourBegins(int hour) {
            return begin + (hour * length + HOURS - 1) / HOURS;
        }

        /** Whether TABLE on the YDAY of a POINT would be the same without it. */
        boolean standsWithout(Town town, int i) {
            if (!within(i, 0, town.count - 1)) {
                return false;
            }
            int aheadOfIt = i > 0 ? i - 1 : town.count - 1;
            int next = i < town.count - 1 ? i + 1 : 0;
            readBetween(town, aheadOfIt, next, town.yday[i]);
            if (polar != NONE || town.polar[i] != NONE) {
                return polar == town.polar[i];
            }
            return dawn == town.dawn[i] && dusk == town.dusk[i];
        }

        private void readTable(Town town, int yday) {
            polar = 0;
            int latest = town.count - 1;
            for (int i = 0; i < town.count && i < MOST_POINTS && town.yday[i] <= yday; i++) {
                latest = i;
            }
            if (within(latest, 0, MOST_POINTS - 1)) {
                int next = latest < town.count - 1 ? latest + 1 : 0;
                readBetween(town, latest, town.yday[latest] == yday ? latest : next, yday);
            }
        }

        /** TABLE of a YDAY by the POINT ahead of it and the next one; both are one if it is alone or of that YDAY. */
        private void readBetween(Town town, int latest, int next, int yday) {
            polar = town.polar[latest] != NONE ? town.polar[latest] : town.polar[next];
            dawn = town.dawn[latest];
            dusk = town.dusk[latest];
            int days = Math.floorMod(town.yday[next] - town.yday[latest], YEAR);
            if (polar == NONE && days > 0) {
                int since = Math.floorMod(yday - town.yday[latest], YEAR);
                dawn += Math.floorDiv((town.dawn[next] - dawn) * since, days);
                dusk += Math.floorDiv((town.dusk[next] - dusk) * since, days);
            }
        }
    }

    /** RINGS of a TOWN on a DAY, in their order. */
    private static final class Rings {
        int count;
        final int[] second = new int[MOST_RINGS];
        final int[] bell = new int[MOST_RINGS];
        private final Span nightAhead = new Span();
        private final Span light = new Span();
        private final Span night = new Span();

        void gather(State state, int town, int day) {
            count = 0;
            if (!isDay(day)) {
                return;
            }
            nightAhead.look(state.townAt(town), day - 1, NIGHT);
            light.look(state.townAt(town), day, LIGHT);
            night.look(state.townAt(town), day, NIGHT);
            for (int k = 0; k < state.bells.count && k < MOST_BELLS; k++) {
                if (state.bells.half[k] == LIGHT) {
                    ringIn(light, state, town, k, 0);
                } else {
                    ringIn(nightAhead, state, town, k, SECONDS);
                    ringIn(night, state, town, k, 0);
                }
            }
        }

        private void ringIn(Span in, State state, int town, int k, int midnight) {
            int part = state.bells.part[k];
            if (!in.there || part >= state.parts || !state.bells.holds(k, town, in)) {
                return;
            }
            int then = in.secondOf(state.bells.hour[k] * state.parts + part, state.parts);
            if (then != NOTHING && within(then - midnight, 0, SECONDS - 1)) {
                put(then - midnight, k);
            }
        }

        private void put(int newSecond, int newBell) {
            if (count >= MOST_RINGS) {
                return;
            }
            int i = count;
            for (; i > 0 && second[i - 1] > newSecond; i--) {
                second[i] = second[i - 1];
                bell[i] = bell[i - 1];
            }
            second[i] = newSecond;
            bell[i] = newBell;
            count++;
        }

        boolean hasOneAt(int that) {
            for (int i = 0; i < count; i++) {
                if (second[i] == that) {
                    return true;
                }
            }
            return false;
        }

        int strokesBy(Bells bells) {
            int sum = 0;
            for (int i = 0; i < count; i++) {
                sum += bells.strokesOf(bell[i]);
            }
            return sum;
        }

        void countInto(int[] tally) {
            for (int i = 0; i < count; i++) {
                if (within(bell[i], 0, tally.length - 1)) {
                    tally[bell[i]]++;
                }
            }
        }
    }
}
