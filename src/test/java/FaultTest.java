import java.util.Random;
import java.util.regex.Matcher;
import java.util.regex.Pattern;

/**
 * Where the FAULT of a text is: the signs by patterns (a beginning with which a text can go on is one that the matcher
 * would read beyond), the numbers and the counts by a walk along the text that has been found well formed.
 */
public final class FaultTest {
    private static final int NONE = -1;
    private static final String SIGNED = "-?[0-9]{1,5}";
    private static final String PLAIN = "[0-9]{1,5}";
    private static final String THING = "(?:" + PLAIN + "|[wyltz])";
    private static final String SUM = THING + "(?:[-+*/]" + THING + ")*";
    private static final String TEST = SUM + "[<>=]" + SUM;
    private static final Pattern TEXT = Pattern.compile(
        "(?:(?:t" + SIGNED + "|p" + SIGNED + "," + SIGNED + "," + SIGNED + "|x" + SIGNED + "," + SIGNED + ");)*");
    private static final Pattern BELLS = Pattern.compile("(?:[dn]" + PLAIN + "(?:[.]" + PLAIN + ")?[*]" + PLAIN
        + "(?:[?]" + TEST + "(?:[&|]" + TEST + ")*)?;)*");
    private static final Pattern ACTS = Pattern.compile("(?:(?:q" + SIGNED + "|[or]" + SIGNED + "," + SIGNED + "|s"
        + SIGNED + "," + SIGNED + "," + SIGNED + "," + SIGNED + ");)*");

    private final Random random = new Random(11);

    public static void main(String[] args) {
        FaultTest test = new FaultTest();
        for (int i = 0; i < 15000; i++) {
            test.tryText();
            test.tryBells();
            test.tryActs();
        }
        Checks.close("FaultTest");
    }

    private int below(int n) {
        return random.nextInt(n);
    }

    /** The first byte with which no text of the pattern goes on; NONE if it is one. */
    private static int signFault(Pattern pattern, String text) {
        for (int i = 1; i <= text.length(); i++) {
            Matcher m = pattern.matcher(text.substring(0, i));
            if (!m.matches() && !m.hitEnd()) {
                return i - 1;
            }
        }
        return pattern.matcher(text).matches() ? NONE : text.length();
    }

    private static boolean isNumberSign(char c) {
        return c == '-' || c >= '0' && c <= '9';
    }

    /** Behind the number that begins at a place. */
    private static int numberEnd(String text, int from) {
        int at = from + 1;
        while (at < text.length() && Character.isDigit(text.charAt(at))) {
            at++;
        }
        return at;
    }

    /** Whether a number has ended ahead of the sign's FAULT: it is not cut off by a 6th digit, nor a lone -. */
    private static boolean isWhole(String text, int from, int signFault) {
        int end = numberEnd(text, from);
        return (signFault == NONE || end <= signFault) && Character.isDigit(text.charAt(end - 1));
    }

    private static int textFault(String text) {
        int fault = signFault(TEXT, text);
        int towns = 0;
        int points = 0;
        int yday = -1;
        int dawn = 0;
        int place = 0;
        char letter = 0;
        int end = fault == NONE ? text.length() : fault;
        for (int at = 0; at < end; at++) {
            char c = text.charAt(at);
            if (c == 't' || c == 'p' || c == 'x') {
                letter = c;
                place = 0;
                if (c == 't' ? towns == 4 : towns == 0 || points == 12) {
                    return at;
                }
                towns += c == 't' ? 1 : 0;
                points = c == 't' ? 0 : points + 1;
                yday = c == 't' ? -1 : yday;
            } else if (isNumberSign(c)) {
                if (!isWhole(text, at, fault)) {
                    break;
                }
                int n = Integer.parseInt(text.substring(at, numberEnd(text, at)));
                boolean good;
                if (letter == 't') {
                    good = n >= -43200 && n <= 43200;
                } else if (place == 0) {
                    good = n > yday && n < 360;
                    yday = n;
                } else if (letter == 'x') {
                    good = n == 0 || n == 1;
                } else {
                    good = n < 86400 && (place == 1 ? n >= 0 : n > dawn);
                    dawn = n;
                }
                if (!good) {
                    return at;
                }
                place++;
                at = numberEnd(text, at) - 1;
            }
        }
        return fault;
    }

    private static int bellFault(String text) {
        int fault = signFault(BELLS, text);
        int bells = 0;
        int things = 0;
        char ahead = ';';
        boolean inCond = false;
        int end = fault == NONE ? text.length() : fault;
        for (int at = 0; at < end; at++) {
            char c = text.charAt(at);
            if (ahead == ';') {
                bells++;
                inCond = false;
                if (bells == 9) {
                    return at;
                }
            }
            boolean isThing = inCond && "0123456789wyltz".indexOf(c) >= 0;
            things += isThing ? 1 : 0;
            if (isThing && things == 41) {
                return at;
            }
            inCond |= c == '?';
            if (Character.isDigit(c)) {
                if (!isWhole(text, at, fault)) {
                    break;
                }
                int n = Integer.parseInt(text.substring(at, numberEnd(text, at)));
                if (!inCond && (ahead == '*' ? n < 1 || n > 24 : n >= (ahead == '.' ? 3600 : 12))) {
                    return at;
                }
                at = numberEnd(text, at) - 1;
            }
            ahead = text.charAt(at);
        }
        return fault;
    }

    private static int actFault(String text) {
        int fault = signFault(ACTS, text);
        int acts = 0;
        for (int at = 0; at < (fault == NONE ? text.length() : fault); at++) {
            acts += "oqrs".indexOf(text.charAt(at)) >= 0 ? 1 : 0;
            if (acts == 31) {
                return at;
            }
        }
        return fault;
    }

    private String number(int low, int high) {
        int n = below(40) == 0 ? below(2) == 0 ? low - 1 : high + 1 : below(6) == 0 ? below(2) == 0 ? low : high
            : low + below(high - low + 1);
        String all = "" + n;
        return below(20) == 0 && n >= 0 && all.length() < 5 ? "0" + all : all;
    }

    private void tryText() {
        StringBuilder text = new StringBuilder();
        int items = below(18);
        int yday = 0;
        for (int i = 0; i < items; i++) {
            boolean many = below(9) > 0;
            if (i == 0 && below(30) > 0 || !many) {
                text.append('t').append(number(-43200, 43200)).append(';');
                yday = 0;
                continue;
            }
            yday += below(15) == 0 ? -1 : 1 + below(20);
            int dawn = below(86399);
            if (below(3) == 0) {
                text.append('x').append(yday).append(',').append(number(0, 1)).append(';');
            } else {
                text.append('p').append(yday).append(',').append(number(0, dawn)).append(',').append(number(dawn + 1, 86399));
                text.append(';');
            }
        }
        String told = spoil(text.toString(), "tpx-0123456789,; T.");
        UnequalHours x = new UnequalHours();
        int got = Checks.text(x, told);
        int due = textFault(told);
        Checks.due("fault() of " + told, x.fault(), due);
        Checks.due("text() of " + told, got, due == NONE ? told.chars().filter(c -> c == ';').count() : NONE);
        Checks.due("is(0) of " + told, x.is(0), due == NONE ? told.chars().filter(c -> c == 't').count() : 0);
    }

    private String cond(int things) {
        StringBuilder cond = new StringBuilder();
        boolean tested = false;
        for (int i = 0; i < things; i++) {
            cond.append(below(2) == 0 ? "" + "wyltz".charAt(below(5)) : number(0, 99999));
            if (i == things - 1) {
                break;
            }
            boolean now = i == things - 2 && !tested || below(3) == 0 && !tested;
            boolean join = tested && i < things - 2 && below(2) == 0;
            cond.append((now ? "<>=" : join ? "&|" : "+-*/").charAt(below(now ? 3 : join ? 2 : 4)));
            tested = now || tested && !join;
        }
        return cond.toString();
    }

    private void tryBells() {
        StringBuilder text = new StringBuilder();
        int bells = below(10);
        for (int i = 0; i < bells; i++) {
            text.append(below(2) == 0 ? 'd' : 'n').append(number(0, 11));
            text.append(below(2) == 0 ? "" : "." + number(0, 3599)).append('*').append(number(1, 24));
            text.append(below(2) == 0 ? "" : "?" + cond(2 + below(12))).append(';');
        }
        String told = spoil(text.toString(), "dnwyltz-0123456789,;.*?&|<>=+/ ");
        UnequalHours x = new UnequalHours();
        int got = Checks.bells(x, told);
        int due = bellFault(told);
        Checks.due("fault() of " + told, x.fault(), due);
        Checks.due("bells() of " + told, got, due == NONE ? told.chars().filter(c -> c == ';').count() : NONE);
        Checks.due("is(3) of " + told, x.is(3), due == NONE ? 1 : 0);
        int things = 0;
        for (int k = 0; k < 8; k++) {
            things += Math.max(0, x.bell(k, 4));
        }
        int question = told.indexOf('?');
        Checks.due("THINGS of " + told, things > 0, due == NONE && question >= 0);
    }

    private void tryActs() {
        StringBuilder text = new StringBuilder();
        int acts = below(8) == 0 ? 28 + below(4) : below(10);
        for (int i = 0; i < acts; i++) {
            int kind = below(4);
            text.append("qors".charAt(kind)).append(number(-99998, 99998));
            for (int k = 0; k < (kind == 0 ? 0 : kind == 3 ? 3 : 1); k++) {
                text.append(',').append(below(2) == 0 ? number(0, 9) : number(-99998, 99998));
            }
            text.append(';');
        }
        String told = spoil(text.toString(), "qors-0123456789,; t");
        if (told.length() > 500) {
            return;
        }
        UnequalHours x = new UnequalHours();
        int got = Checks.acts(x, told);
        int due = actFault(told);
        Checks.due("fault() of " + told, x.fault(), due);
        Checks.due("acts() of " + told, got == NONE, due != NONE);
    }

    /** Changes, drops or adds a sign, or cuts the text, at random. */
    private String spoil(String text, String signs) {
        String told = text.length() > 500 ? text.substring(0, 500) : text;
        if (told.isEmpty() || below(3) == 0) {
            return told;
        }
        int at = below(told.length());
        char sign = signs.charAt(below(signs.length()));
        switch (below(4)) {
            case 0:
                return told.substring(0, at) + sign + told.substring(at + 1);
            case 1:
                return told.substring(0, at) + told.substring(at + 1);
            case 2:
                return told.length() < 500 ? told.substring(0, at) + sign + told.substring(at) : told;
            default:
                return told.substring(0, at);
        }
    }
}
