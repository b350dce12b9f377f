import java.util.ArrayList;
import java.util.List;
import java.util.function.IntSupplier;
import java.util.function.ToIntFunction;

/**
 * Cases of boundaries. Each method of a class below this one whose name begins with p and the number of a promise is a
 * case of its own: it runs on an instance of its own, and so on a new object.
 */
abstract class Cases {
    static final int NONE = -1;
    static final int NOTHING = -2;
    static final int AWAY = -1000000;
    static final int MIN = Integer.MIN_VALUE;
    static final int MAX = Integer.MAX_VALUE;
    /** From 6 to 18 o'clock on each DAY: HOURS of 3600 seconds, PARTS of 60, by day and by night. */
    static final String PLAIN = "t0;p0,21600,64800;";

    final UnequalHours x = new UnequalHours();

    /** A call whose arguments are told as a row. */
    interface Call {
        int of(int[] a);
    }

    void due(long got, long want) {
        Checks.due(got == want ? "" : where(), got, want);
    }

    void due(boolean got, boolean want) {
        due(got ? 1 : 0, want ? 1 : 0);
    }

    /** The line of the case that asks. */
    private static String where() {
        return StackWalker.getInstance().walk(frames -> frames
            .filter(frame -> !frame.getClassName().startsWith("Cases"))
            .findFirst().map(Object::toString).orElse("?"));
    }

    static int[] with(int... good) {
        return good;
    }

    /**
     * The k-th argument may be from low to high: there the answers are these; just outside, and as far outside as can
     * be, the call is refused and changes nothing.
     */
    void bounds(Call call, int[] good, int k, int low, int atLow, int high, int atHigh, int refusal) {
        due(call.of(put(good, k, low)), atLow);
        due(call.of(put(good, k, high)), atHigh);
        List<Integer> before = all();
        for (int outside : new int[] {low - 1, high + 1, MIN, MAX}) {
            due(call.of(put(good, k, outside)), refusal);
        }
        due(all().equals(before), true);
    }

    private static int[] put(int[] good, int k, int n) {
        int[] row = good.clone();
        row[k] = n;
        return row;
    }

    /** A call that is refused: it changes nothing. */
    void refused(IntSupplier call, int want) {
        List<Integer> before = all();
        due(call.getAsInt(), want);
        due(all().equals(before), true);
    }

    /** All that can be asked of what is held. */
    List<Integer> all() {
        List<Integer> all = held();
        all.add(x.is(4));
        all.add(x.fault());
        return all;
    }

    /** All that can be asked of what is held but for the tape and the FAULT. */
    private List<Integer> held() {
        List<Integer> all = new ArrayList<>(List.of(x.is(0), x.is(1), x.is(2), x.is(3), x.is(5), x.is(6), x.ended()));
        for (int town = 0; town < x.is(0); town++) {
            all.add(x.town(town, 0));
            for (int what = 10; what < 10 + 4 * x.town(town, 1); what++) {
                all.add(x.town(town, what));
            }
        }
        for (int k = 0; k < x.is(2); k++) {
            for (int what = 0; what <= 4; what++) {
                all.add(x.bell(k, what));
            }
        }
        for (int k = 0; x.octet(k) != NONE; k++) {
            all.add(x.octet(k));
        }
        return all;
    }

    void text(String text, int want) {
        read(text, want, x::text);
    }

    void bells(String text, int want) {
        read(text, want, x::bells);
    }

    void acts(String text, int want) {
        read(text, want, x::acts);
    }

    private void read(String text, int want, IntSupplier call) {
        Checks.put(x, text);
        due(call.getAsInt(), want);
        due(x.fault(), NONE);
        due(x.is(4), 0);
    }

    void wrongText(String marked) {
        wrong(marked, x::text);
    }

    void wrongBells(String marked) {
        wrong(marked, x::bells);
    }

    void wrongActs(String marked) {
        wrong(marked, x::acts);
    }

    /** The FAULT is where the ^ stands (which is not on the tape); nothing is done, and the tape is empty. */
    private void wrong(String marked, IntSupplier call) {
        int place = marked.indexOf('^');
        List<Integer> before = held();
        Checks.put(x, marked.substring(0, place) + marked.substring(place + 1));
        due(call.getAsInt(), NONE);
        due(x.fault(), place);
        due(x.is(4), 0);
        due(held().equals(before), true);
    }

    /** Each beginning of a well text that does not end with a ; ends too early: its FAULT is its length. */
    void endsTooEarly(String whole, ToIntFunction<UnequalHours> call) {
        for (int n = 1; n < whole.length(); n++) {
            boolean well = whole.charAt(n - 1) == ';';
            faultOf(whole.substring(0, n), call, well ? NONE : n);
        }
    }

    /** With a byte of no use in its place each byte of a well text is a FAULT. */
    void goesOnWithNoOther(String whole, char other, ToIntFunction<UnequalHours> call) {
        for (int n = 0; n < whole.length(); n++) {
            faultOf(whole.substring(0, n) + other + whole.substring(n + 1), call, n);
        }
    }

    private void faultOf(String text, ToIntFunction<UnequalHours> call, int want) {
        UnequalHours y = new UnequalHours();
        Checks.put(y, text);
        due(call.applyAsInt(y) != NONE, want == NONE);
        due(y.fault(), want);
    }

    static String repeated(String one, int many) {
        StringBuilder all = new StringBuilder();
        for (int i = 0; i < many; i++) {
            all.append(one);
        }
        return all.toString();
    }
}
