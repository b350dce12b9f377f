/** What the tests share: counting wrong answers, and putting a text on the tape. */
final class Checks {
    private static int wrong = 0;
    private static int asked = 0;

    private Checks() {
    }

    static void due(String call, long got, long want) {
        asked++;
        if (got != want) {
            wrong++;
            if (wrong <= 40) {
                System.out.println(call + " answered " + got + ", due is " + want);
            }
        }
    }

    static void due(String call, boolean got, boolean want) {
        due(call, got ? 1 : 0, want ? 1 : 0);
    }

    static void close(String name) {
        System.out.println(name + ": " + asked + " answers, " + wrong + " not as due");
        if (wrong != 0 || asked == 0) {
            System.exit(1);
        }
    }

    /** Puts a text on the empty tape. */
    static void put(UnequalHours x, String text) {
        x.end(0);
        for (int i = 0; i < text.length(); i += 20) {
            x.feed(four(text, i), four(text, i + 4), four(text, i + 8), four(text, i + 12), four(text, i + 16));
        }
        if (x.end(text.length()) != text.length()) {
            throw new IllegalStateException("too long for the tape: " + text);
        }
    }

    private static int four(String text, int from) {
        int four = 0;
        for (int i = from; i < from + 4; i++) {
            four = four << 8 | (i < text.length() ? text.charAt(i) : 0);
        }
        return four;
    }

    static int text(UnequalHours x, String text) {
        put(x, text);
        return x.text();
    }

    static int bells(UnequalHours x, String text) {
        put(x, text);
        return x.bells();
    }

    static int acts(UnequalHours x, String text) {
        put(x, text);
        return x.acts();
    }

    static String written(UnequalHours x, int town) {
        int many = x.write(town);
        StringBuilder all = new StringBuilder();
        for (int k = 0; k < many; k++) {
            all.append((char) x.octet(k));
        }
        return all.toString();
    }
}
