/** Boundaries of what is asked of two TOWNS: promises 14, 24, 29, 32, 37, 41, 43. */
final class EdgesOfTwoTowns extends Cases {
    private static final String FOUR = PLAIN + "t0;t0;" + PLAIN;
    /** As far apart as can be: the second one's DAY is the first one's DAY less 1, at the same second. */
    private static final String FARTHEST = "t43200;p0,21600,64800;t-43200;p0,21600,64800;";
    private static final String LONGEST = "p0,0,86399;";
    /** NIGHT of YDAY 0 is from 1 to 172798: its HOURS begin at 1, 14401, .. 72000, 86400, 100800, .. 158399. */
    private static final String SHORTEST = "p0,0,1;p1,86398,86399;";
    private static final String SEVEN = "p0,0,7;";

    // ---- 14: over ----

    private int over(int[] a) {
        return x.over(a[0], a[1], a[2], a[3], a[4]);
    }

    void p14_whichTown() {
        text("t0;t0;t0;t0;", 4);
        bounds(this::over, with(0, 5, 7, 0, 1), 0, 0, 7, 3, 7, AWAY);
    }

    void p14_whichOther() {
        text("t0;t0;t0;t0;", 4);
        bounds(this::over, with(0, 5, 7, 0, 1), 3, 0, 7, 3, 7, AWAY);
    }

    void p14_oneBehindTheLastTown() {
        text("t0;", 1);
        due(x.over(0, 5, 7, 1, 1), AWAY);
        due(x.over(1, 5, 7, 0, 1), AWAY);
        due(x.over(0, 5, 7, 0, 1), 7);
    }

    void p14_day() {
        text("t0;", 1);
        bounds(this::over, with(0, 5, 7, 0, 0), 1, 0, 0, 35999, 35999, AWAY);
    }

    void p14_second() {
        text("t0;", 1);
        bounds(this::over, with(0, 5, 7, 0, 1), 2, 0, 0, 86399, 86399, AWAY);
    }

    void p14_what() {
        text("t0;", 1);
        bounds(this::over, with(0, 5, 7, 0, 0), 4, 0, 5, 1, 7, AWAY);
    }

    private void over(int town, int day, int second, int wantDay, int wantSecond) {
        due(x.over(town, day, second, 1 - town, 0), wantDay);
        due(x.over(town, day, second, 1 - town, 1), wantSecond);
    }

    void p14_midnight() {
        text("t0;t1;", 2);
        over(0, 5, 86398, 5, 86399);
        over(0, 5, 86399, 6, 0);
        over(1, 5, 1, 5, 0);
        over(1, 5, 0, 4, 86399);
    }

    void p14_farthestBehind() {
        text("t0;t-43200;", 2);
        over(0, 5, 43200, 5, 0);
        over(0, 5, 43199, 4, 86399);
        over(0, 5, 0, 4, 43200);
    }

    void p14_farthestAhead() {
        text("t0;t43200;", 2);
        over(0, 5, 43199, 5, 86399);
        over(0, 5, 43200, 6, 0);
        over(0, 5, 86399, 6, 43199);
    }

    void p14_aWholeDayApart() {
        text(FARTHEST, 4);
        over(0, 5, 0, 4, 0);
        over(0, 5, 86399, 4, 86399);
        over(1, 5, 0, 6, 0);
        over(1, 5, 86399, 6, 86399);
    }

    void p14_below0() {
        text(FARTHEST, 4);
        over(0, 0, 0, -1, 0);
        over(0, 0, 86399, -1, 86399);
        over(0, 1, 0, 0, 0);
    }

    void p14_above35999() {
        text(FARTHEST, 4);
        over(1, 35999, 0, 36000, 0);
        over(1, 35999, 86399, 36000, 86399);
        over(1, 35998, 86399, 35999, 86399);
    }

    // ---- 24: meet ----

    private int meet(int[] a) {
        return x.meet(a[0], a[1], a[2], a[3], a[4]);
    }

    private void met(int key, int a, int b, int day, int second, int seconds) {
        due(x.meet(key, a, b, day, 0), second);
        due(x.meet(key, a, b, day, 1), seconds);
    }

    private void never(int key, int a, int b, int day) {
        met(key, a, b, day, AWAY, AWAY);
    }

    void p24_key() {
        text(FOUR, 6);
        bounds(this::meet, with(0, 0, 0, 5, 0), 0, 0, 21600, 15, 21600, AWAY);
    }

    void p24_oneBehindTheLastTown() {
        text(PLAIN, 2);
        met(0, 0, 0, 5, 21600, 3600);
        never(1, 0, 0, 5);
        never(4, 0, 0, 5);
    }

    void p24_hour() {
        text(PLAIN + "t1800;p0,21600,64800;", 4);
        bounds(this::meet, with(1, 0, 0, 5, 0), 1, 0, 21600, 23, 106200, AWAY);
    }

    void p24_otherHour() {
        text(PLAIN + "t1800;p0,21600,64800;", 4);
        bounds(this::meet, with(4, 0, 0, 5, 0), 2, 0, 23400, 23, 21600, AWAY);
    }

    void p24_day() {
        text(PLAIN, 2);
        bounds(this::meet, with(0, 0, 0, 5, 0), 3, 0, 21600, 35999, 21600, AWAY);
    }

    void p24_what() {
        text(PLAIN, 2);
        bounds(this::meet, with(0, 0, 0, 5, 0), 4, 0, 21600, 1, 3600, AWAY);
    }

    void p24_lastHourOfLightFirstOfNight() {
        text(PLAIN, 2);
        met(0, 11, 11, 5, 61200, 3600);
        met(0, 12, 12, 5, 64800, 3600);
        never(0, 11, 12, 5);
        never(0, 12, 11, 5);
    }

    void p24_lastHourOfNightFirstOfLight() {
        text(PLAIN, 2);
        met(0, 23, 23, 5, 104400, 3600);
        never(0, 23, 0, 5);
        never(0, 0, 23, 5);
    }

    void p24_above86399() {
        text(PLAIN, 2);
        met(0, 17, 17, 5, 82800, 3600);
        met(0, 18, 18, 5, 86400, 3600);
    }

    void p24_oneSecond() {
        text(PLAIN + "t3599;p0,21600,64800;t-3599;p0,21600,64800;", 6);
        met(1, 0, 0, 5, 21600, 1);
        met(2, 0, 0, 5, 25199, 1);
    }

    void p24_neverByOneSecond() {
        text(PLAIN + "t3600;p0,21600,64800;t-3600;p0,21600,64800;", 6);
        never(1, 0, 0, 5);
        never(2, 0, 0, 5);
    }

    void p24_oneWithinTheOther() {
        text("t0;p0,0,43200;t0;p0,100,1300;", 4);
        met(1, 0, 1, 5, 200, 100);
        met(4, 1, 0, 5, 200, 100);
        met(1, 0, 0, 5, 100, 100);
    }

    void p24_anHourOfTheDayAhead() {
        text(PLAIN + "t0;p0,18000,61200;", 4);
        met(4, 0, 23, 6, 18000, 3600);
        met(4, 0, 23, 1, 18000, 3600);
        never(4, 0, 23, 0);
    }

    void p24_anHourOfTheNextDay() {
        text(PLAIN + "t0;p0,18000,61200;", 4);
        met(1, 23, 0, 5, 104400, 3600);
        met(1, 23, 0, 35998, 104400, 3600);
        never(1, 23, 0, 35999);
    }

    void p24_aWholeDayApart() {
        text(FARTHEST, 4);
        met(1, 0, 0, 5, 21600, 3600);
        met(4, 0, 0, 5, 21600, 3600);
        met(1, 12, 12, 5, 64800, 3600);
        met(4, 12, 12, 5, 64800, 3600);
    }

    void p24_aWholeDayApartOnTheFirstDay() {
        text(FARTHEST, 4);
        never(1, 0, 0, 0);
        met(1, 0, 0, 1, 21600, 3600);
        never(1, 12, 12, 0);
        met(1, 12, 12, 1, 64800, 3600);
    }

    void p24_aWholeDayApartOnTheLastDay() {
        text(FARTHEST, 4);
        never(4, 0, 0, 35999);
        met(4, 0, 0, 35998, 21600, 3600);
        never(4, 12, 12, 35998);
        met(4, 12, 12, 35997, 64800, 3600);
    }

    void p24_twoDaysOn() {
        text("t-43200;" + SHORTEST + "t43200;" + LONGEST, 5);
        met(1, 23, 11, 0, 165600, 7198);
    }

    void p24_twoDaysAhead() {
        text("t43200;" + LONGEST + "t-43200;" + SHORTEST, 5);
        met(1, 11, 23, 2, 79200, 7198);
    }

    void p24_theFirstOfTwo() {
        // LIGHTS of the other TOWN of one second each, two seconds apart, in one HOUR.
        text("t0;" + SHORTEST + "t10;p0,86398,86399;p1,0,1;", 6);
        met(1, 17, 0, 0, 86388, 1);
        x.offset(1, -10);
        met(1, 18, 0, 0, 86408, 1);
    }

    void p24_hoursThatAreNotThere() {
        text("t0;" + SEVEN + "t0;" + LONGEST, 4);
        met(0, 1, 1, 5, 1, 1);
        never(0, 2, 2, 5);
        met(0, 3, 3, 5, 2, 1);
        met(0, 10, 10, 5, 6, 1);
        never(0, 11, 11, 5);
        never(1, 2, 0, 5);
        never(4, 0, 2, 5);
        met(4, 0, 10, 5, 6, 1);
    }

    void p24_polarDays() {
        text(PLAIN + "t0;x0,1;", 4);
        never(1, 0, 0, 5);
        never(4, 0, 0, 5);
        never(1, 12, 12, 5);
        never(4, 12, 12, 5);
        never(5, 0, 0, 5);
    }

    void p24_noNight() {
        text("t0;p0,21600,64800;x1,1;p2,21600,64800;", 4);
        never(0, 12, 12, 0);
        met(0, 11, 11, 0, 61200, 3600);
        never(0, 12, 12, 1);
        met(0, 12, 12, 2, 64800, 3600);
        never(0, 12, 12, 35999);
        met(0, 11, 11, 35999, 61200, 3600);
    }

    void p24_partsDoNotCount() {
        text("t0;" + SEVEN, 2);
        x.parts(1);
        met(0, 10, 10, 5, 6, 1);
        x.parts(3600);
        met(0, 10, 10, 5, 6, 1);
        never(0, 11, 11, 5);
    }

    // ---- 29: shared ----

    private void shared(int key, int day, int seconds, int days) {
        due(x.shared(key, day, 0), seconds);
        due(x.shared(key, day, 1), days);
    }

    void p29_key() {
        text(FOUR, 6);
        bounds(a -> x.shared(a[0], a[1], a[2]), with(0, 5, 0), 0, 0, 43200, 15, 43200, NONE);
    }

    void p29_oneBehindTheLastTown() {
        text(PLAIN, 2);
        shared(0, 5, 43200, 1);
        shared(1, 5, NONE, NONE);
        shared(4, 5, NONE, NONE);
    }

    void p29_day() {
        text(PLAIN, 2);
        bounds(a -> x.shared(a[0], a[1], a[2]), with(0, 5, 0), 1, 0, 43200, 35999, 43200, NONE);
    }

    void p29_what() {
        text(PLAIN, 2);
        bounds(a -> x.shared(a[0], a[1], a[2]), with(0, 5, 0), 2, 0, 43200, 1, 1, NONE);
    }

    void p29_oneSecond() {
        text(PLAIN + "t43199;p0,21600,64800;t-43199;p0,21600,64800;", 6);
        shared(1, 5, 1, 1);
        shared(2, 5, 1, 1);
    }

    void p29_notOneSecond() {
        text(PLAIN + "t43200;p0,21600,64800;t-43200;p0,21600,64800;", 6);
        shared(1, 5, 0, 0);
        shared(2, 5, 0, 0);
    }

    void p29_ofTwoDays() {
        text(PLAIN + "t43200;" + LONGEST + "t-43200;" + LONGEST, 6);
        shared(1, 5, 21599 + 21600, 2);
        shared(2, 5, 21599 + 21600, 2);
    }

    void p29_theFirstDay() {
        text(PLAIN + "t43200;" + LONGEST + "t-43200;" + LONGEST, 6);
        shared(1, 0, 43199, 2);
        shared(2, 0, 21600, 1);
    }

    void p29_theLastDay() {
        text(PLAIN + "t43200;" + LONGEST + "t-43200;" + LONGEST, 6);
        shared(1, 35999, 21599, 1);
        shared(2, 35999, 43199, 2);
    }

    void p29_aWholeDayApart() {
        text(FARTHEST, 4);
        shared(1, 5, 43200, 1);
        shared(4, 5, 43200, 1);
        shared(1, 0, 0, 0);
        shared(1, 1, 43200, 1);
        shared(4, 35999, 0, 0);
        shared(4, 35998, 43200, 1);
    }

    void p29_polarDays() {
        text(PLAIN + "t0;x0,1;", 4);
        shared(1, 5, 0, 0);
        shared(4, 5, 0, 0);
        shared(5, 5, 0, 0);
    }

    void p29_oneOfTheOtherDaysIsPolar() {
        text(PLAIN + "t43200;p0,0,86399;x1,1;p2,0,86399;", 6);
        shared(1, 0, 21599, 1);
        shared(1, 1, 21600, 1);
        shared(1, 2, 43199, 2);
    }

    void p29_theLongest() {
        text("t0;" + LONGEST + "t0;" + LONGEST, 4);
        shared(1, 5, 86399, 1);
    }

    void p29_oneWithinTheOther() {
        text("t0;" + LONGEST + "t0;" + SEVEN, 4);
        shared(1, 5, 7, 1);
        shared(4, 5, 7, 1);
    }

    // ---- 32: arrive ----

    private int arrive(int[] a) {
        return x.arrive(a[0], a[1], a[2], a[3], a[4]);
    }

    private void arrived(int key, int day, int second, int takes, int... want) {
        for (int what = 0; what < want.length; what++) {
            due(x.arrive(key, day, second, takes, what), want[what]);
        }
    }

    void p32_key() {
        text(FOUR, 6);
        bounds(this::arrive, with(0, 5, 43200, 0, 3), 0, 0, 6, 15, 6, NONE);
    }

    void p32_oneBehindTheLastTown() {
        text(PLAIN, 2);
        due(x.arrive(0, 5, 43200, 0, 0), 5);
        due(x.arrive(1, 5, 43200, 0, 0), NONE);
        due(x.arrive(4, 5, 43200, 0, 0), NONE);
    }

    void p32_day() {
        text(PLAIN, 2);
        bounds(this::arrive, with(0, 5, 43200, 0, 0), 1, 0, 0, 35999, 35999, NONE);
    }

    void p32_second() {
        text(PLAIN, 2);
        bounds(this::arrive, with(0, 5, 43200, 0, 1), 2, 0, 0, 86399, 86399, NONE);
    }

    void p32_takes() {
        text(PLAIN, 2);
        bounds(this::arrive, with(0, 5, 43200, 0, 0), 3, 0, 5, 864000, 15, NONE);
    }

    void p32_what() {
        text(PLAIN, 2);
        bounds(this::arrive, with(0, 5, 43200, 0, 0), 4, 0, 5, 3, 6, NONE);
    }

    void p32_noTime() {
        text(PLAIN, 2);
        arrived(0, 5, 21600, 0, 5, 21600, 0, 0);
        arrived(0, 5, 64800, 0, 5, 64800, 1, 0);
    }

    void p32_midnight() {
        text(PLAIN, 2);
        arrived(0, 5, 1, 86398, 5, 86399, 1, 5);
        arrived(0, 5, 1, 86399, 6, 0, 1, 6);
    }

    void p32_theLatestThereCanBe() {
        text("t-43200;t43200;p0,0,86399;", 3);
        arrived(1, 5, 86399, 864000, 16, 86399, 1, 0);
    }

    void p32_midnightOfTheOtherTown() {
        text("t0;t1;p0,21600,64800;", 3);
        arrived(1, 5, 86398, 0, 5, 86399, 1, 5);
        arrived(1, 5, 86399, 0, 6, 0, 1, 6);
    }

    void p32_aboveTheLastDay() {
        text(PLAIN, 2);
        arrived(0, 35999, 86399, 0, 35999, 86399, -2, -2);
        arrived(0, 35999, 86399, 1, -2, -2, -2, -2);
        arrived(0, 35989, 86399, 864000, 35999, 86399, -2, -2);
        arrived(0, 35990, 0, 864000, -2, -2, -2, -2);
    }

    void p32_aboveTheLastDayOfTheOtherTown() {
        text("t0;t1;p0,21600,64800;", 3);
        arrived(1, 35999, 86398, 0, 35999, 86399, -2, -2);
        arrived(1, 35999, 86399, 0, -2, -2, -2, -2);
    }

    void p32_aheadOfTheFirstDay() {
        text(FARTHEST, 4);
        arrived(1, 0, 0, 0, -2, -2, -2, -2);
        arrived(1, 0, 0, 86399, -2, -2, -2, -2);
        arrived(1, 0, 0, 86400, 0, 0, -2, -2);
        arrived(1, 0, 0, 86400 + 21600, 0, 21600, 0, 0);
    }

    void p32_belongsToNone() {
        text(PLAIN + "t0;x0,1;", 4);
        arrived(1, 5, 43200, 0, 5, 43200, -2, -2);
        arrived(0, 0, 21599, 0, 0, 21599, -2, -2);
        arrived(0, 35999, 64800, 0, 35999, 64800, -2, -2);
    }

    void p32_theTownThatIsLeftMayBePolar() {
        text(PLAIN + "t0;x0,1;", 4);
        arrived(4, 5, 43200, 0, 5, 43200, 0, 6);
    }

    void p32_dayIsNotThatToWhichItBelongs() {
        text(PLAIN, 2);
        arrived(0, 5, 0, 3600, 5, 3600, 1, 7);
    }

    void p32_wrongGoesAheadOfNoSuchDay() {
        text(PLAIN, 2);
        due(x.arrive(0, 35999, 86399, 1, 4), NONE);
        due(x.arrive(0, 35999, 86399, 1, -1), NONE);
        due(x.arrive(0, 35999, 86399, 864001, 0), NONE);
        due(x.arrive(0, 36000, 0, 0, 0), NONE);
    }

    // ---- 37: shows ----

    private int shows(int[] a) {
        return x.shows(a[0], a[1], a[2], a[3], a[4]);
    }

    private void shown(int key, int day, int half, int place, int... want) {
        for (int what = 0; what < want.length; what++) {
            due(x.shows(key, day, half, place, what), want[what]);
        }
    }

    private void notShown(int key, int day, int half, int place) {
        shown(key, day, half, place, -2, -2, -2);
    }

    void p37_key() {
        text(FOUR, 6);
        bounds(this::shows, with(0, 5, 0, 7, 2), 0, 0, 7, 15, 7, NONE);
    }

    void p37_oneBehindTheLastTown() {
        text(PLAIN, 2);
        due(x.shows(0, 5, 0, 7, 2), 7);
        due(x.shows(1, 5, 0, 7, 2), NONE);
        due(x.shows(4, 5, 0, 7, 2), NONE);
    }

    void p37_day() {
        text(PLAIN, 2);
        bounds(this::shows, with(0, 5, 0, 7, 0), 1, 0, 0, 35999, 35999, NONE);
    }

    void p37_half() {
        text(PLAIN, 2);
        bounds(this::shows, with(0, 5, 0, 7, 1), 2, 0, 0, 1, 1, NONE);
    }

    void p37_place() {
        text(PLAIN, 2);
        bounds(this::shows, with(0, 5, 0, 7, 2), 3, 0, 0, 719, 719, NONE);
    }

    void p37_placeOfOnePart() {
        text(PLAIN, 2);
        x.parts(1);
        bounds(this::shows, with(0, 5, 0, 7, 2), 3, 0, 0, 11, 11, NONE);
    }

    void p37_placeOfMostParts() {
        text(PLAIN, 2);
        x.parts(3600);
        bounds(this::shows, with(0, 5, 0, 7, 2), 3, 0, 0, 43199, 43199, NONE);
    }

    void p37_what() {
        text(PLAIN, 2);
        bounds(this::shows, with(0, 5, 0, 7, 0), 4, 0, 5, 2, 7, NONE);
    }

    void p37_polarDaysOfTheFirst() {
        text("t0;x0,1;" + PLAIN, 4);
        notShown(1, 5, 0, 0);
        notShown(1, 5, 1, 0);
    }

    void p37_polarDaysOfTheOther() {
        text("t0;x0,1;" + PLAIN, 4);
        notShown(4, 5, 0, 0);
        notShown(4, 5, 1, 719);
    }

    void p37_noNight() {
        text("t0;p0,21600,64800;x1,1;p2,21600,64800;", 4);
        notShown(0, 0, 1, 0);
        shown(0, 0, 0, 719, 0, 0, 719);
        shown(0, 2, 1, 0, 2, 1, 0);
        notShown(0, 35999, 1, 0);
    }

    void p37_aPlaceThatIsNotThere() {
        text("t0;" + SEVEN + PLAIN, 4);
        notShown(1, 5, 0, 719);
        // The latest PLACE that is there: 617 sixtieths of 7 twelfths are less than 6 seconds and above 5.
        due(x.back(0, 5, 0, 617), 6);
        shown(1, 5, 0, 617, 4, 1, 360);
        due(x.back(0, 5, 0, 618), -2);
        notShown(1, 5, 0, 618);
    }

    void p37_noSuchDay() {
        text(FARTHEST, 4);
        notShown(1, 0, 0, 0);
        shown(1, 1, 0, 0, 0, 0, 0);
        notShown(4, 35999, 0, 719);
        shown(4, 35998, 0, 719, 35999, 0, 719);
    }

    void p37_belongsToNone() {
        text(PLAIN + "t-3600;p0,21600,64800;t3600;p0,21600,64800;", 6);
        notShown(1, 0, 0, 0);
        notShown(1, 0, 0, 59);
        shown(1, 0, 0, 60, 0, 0, 0);
        shown(2, 35999, 0, 659, 35999, 0, 719);
        notShown(2, 35999, 0, 660);
        notShown(2, 35999, 0, 719);
    }

    void p37_belongsToTheNightOfTheDayAhead() {
        text(PLAIN + "t-3600;p0,21600,64800;", 4);
        shown(1, 5, 0, 0, 4, 1, 660);
        shown(1, 5, 0, 59, 4, 1, 719);
        shown(1, 5, 0, 60, 5, 0, 0);
    }

    void p37_atMidnight() {
        text("t0;" + LONGEST + PLAIN, 4);
        shown(0, 5, 0, 0, 5, 0, 0);
        shown(1, 5, 0, 0, 4, 1, 360);
    }

    void p37_aboveMidnight() {
        text(PLAIN, 2);
        shown(0, 5, 1, 359, 5, 1, 359);
        shown(0, 5, 1, 360, 5, 1, 360);
        shown(0, 35998, 1, 719, 35998, 1, 719);
    }

    void p37_aboveMidnightOfTheLastDay() {
        text(FARTHEST, 4);
        shown(4, 35997, 1, 719, 35998, 1, 719);
        notShown(4, 35998, 1, 0);
        notShown(4, 35998, 1, 359);
        notShown(4, 35998, 1, 360);
    }

    void p37_wrongGoesAheadOfNone() {
        text("t0;x0,1;", 2);
        due(x.shows(0, 5, 0, 0, 2), -2);
        due(x.shows(0, 5, 0, 0, 3), NONE);
        due(x.shows(0, 5, 0, 0, -1), NONE);
        due(x.shows(0, 5, 0, 720, 2), NONE);
        due(x.shows(0, 5, 2, 0, 2), NONE);
        due(x.shows(0, 36000, 0, 0, 2), NONE);
    }

    // ---- 41: same ----

    private int same(int[] a) {
        return x.same(a[0], a[1]);
    }

    void p41_key() {
        text(FOUR, 6);
        bells("d1*1;", 1);
        bounds(this::same, with(0, 5), 0, 0, 1, 15, 1, NONE);
    }

    void p41_oneBehindTheLastTown() {
        text(PLAIN, 2);
        bells("d1*1;", 1);
        due(x.same(0, 5), 1);
        due(x.same(1, 5), NONE);
        due(x.same(4, 5), NONE);
    }

    void p41_day() {
        text(PLAIN, 2);
        bells("d1*1;", 1);
        bounds(this::same, with(0, 5), 1, 0, 1, 35999, 1, NONE);
    }

    void p41_noBells() {
        text(PLAIN + PLAIN, 4);
        due(x.same(1, 5), 0);
    }

    void p41_theOtherHasNoRings() {
        text(PLAIN + "t0;x0,1;", 4);
        bells("d1*1;", 1);
        due(x.same(1, 5), 0);
        due(x.same(4, 5), 0);
    }

    void p41_oneSecondApart() {
        text(PLAIN + "t1;p0,21600,64800;t1;p0,21601,64801;", 6);
        bells("d1*1;", 1);
        due(x.same(1, 5), 0);
        due(x.same(4, 5), 0);
        due(x.same(2, 5), 1);
        due(x.same(8, 5), 1);
    }

    void p41_eachOfLikeOnes() {
        text(PLAIN + PLAIN, 4);
        bells("d1*1?t=0;d1*1?t=0;d1*1?t=1;", 3);
        due(x.same(1, 5), 2);
        due(x.same(4, 5), 1);
        due(x.same(0, 5), 2);
    }

    void p41_theDayAheadOfTheOther() {
        text(PLAIN + "t-1;p0,21599,64799;", 4);
        bells("n6*1;", 1);
        due(x.ring(0, 6, 0, 0), 0);
        due(x.ring(1, 5, 0, 0), 86399);
        due(x.same(1, 6), 1);
        due(x.same(4, 5), 1);
        due(x.same(1, 1), 1);
        due(x.same(4, 0), 1);
    }

    void p41_theNextDayOfTheOther() {
        text("t0;p0,86387,86399;t2;p0,0,12;", 4);
        bells("d11*1?t=0;d0*1?t=1;", 2);
        due(x.same(1, 5), 1);
        due(x.same(4, 6), 1);
        due(x.same(1, 35998), 1);
        due(x.same(1, 35999), 0);
        due(x.same(4, 35999), 1);
        due(x.same(4, 0), 0);
    }

    void p41_aWholeDayApart() {
        text(FARTHEST, 4);
        bells("d1*1;", 1);
        due(x.same(1, 5), 1);
        due(x.same(4, 5), 1);
        due(x.same(1, 0), 0);
        due(x.same(1, 1), 1);
        due(x.same(4, 35999), 0);
        due(x.same(4, 35998), 1);
    }

    void p41_sixteenRings() {
        String twice = "t0;p0,1,80000;p1,40000,40001;p2,1,80000;";
        text(twice + twice, 8);
        bells("n4*1;n5*1;n6*1;n7*1;n8*1;n9*1;n10*1;n11*1;", 8);
        due(x.same(1, 1), 16);
        due(x.same(1, 0), 0);
        x.offset(1, 1);
        due(x.same(1, 1), 0);
    }

    // ---- 43: lag ----

    private int lag(int[] a) {
        return x.lag(a[0], a[1], a[2], a[3]);
    }

    void p43_key() {
        text(FOUR, 6);
        bounds(this::lag, with(0, 5, 0, 7), 0, 0, 0, 15, 0, AWAY);
    }

    void p43_oneBehindTheLastTown() {
        text(PLAIN, 2);
        due(x.lag(0, 5, 0, 7), 0);
        due(x.lag(1, 5, 0, 7), AWAY);
        due(x.lag(4, 5, 0, 7), AWAY);
    }

    void p43_day() {
        text(PLAIN + "t0;p0,20000,60000;p359,30000,60000;", 5);
        bounds(this::lag, with(1, 5, 0, 0), 1, 0, -1600, 35999, 8400, AWAY);
    }

    void p43_half() {
        text(PLAIN + "t0;p0,20000,60000;", 4);
        bounds(this::lag, with(1, 5, 0, 0), 2, 0, -1600, 1, -4800, AWAY);
    }

    void p43_place() {
        text(PLAIN + "t0;p0,20000,60000;", 4);
        bounds(this::lag, with(1, 5, 0, 0), 3, 0, -1600, 719, -4795, AWAY);
    }

    void p43_placeOfOnePart() {
        text(PLAIN + "t0;p0,20000,60000;", 4);
        x.parts(1);
        bounds(this::lag, with(1, 5, 0, 0), 3, 0, -1600, 11, -4533, AWAY);
    }

    void p43_placeOfMostParts() {
        text(PLAIN + PLAIN, 4);
        x.parts(3600);
        bounds(this::lag, with(1, 5, 0, 0), 3, 0, 0, 43199, 0, AWAY);
    }

    void p43_whichIsLater() {
        text(PLAIN + "t3600;p0,21600,64800;", 4);
        due(x.lag(1, 5, 0, 0), -3600);
        due(x.lag(4, 5, 0, 0), 3600);
    }

    void p43_aSecondIsNotRefused() {
        text(PLAIN + "t1;p0,21600,64800;t2;p0,21600,64800;", 6);
        due(x.lag(1, 5, 0, 0), -1);
        due(x.lag(2, 5, 1, 719), -2);
    }

    void p43_farthestApart() {
        text("t43200;p0,0,1;t-43200;p0,86398,86399;", 4);
        due(x.lag(1, 5, 0, 0), 172798);
        due(x.lag(4, 5, 0, 0), -172798);
    }

    void p43_farthestApartByNight() {
        text("t43200;p0,0,1;t-43200;" + LONGEST, 4);
        due(x.lag(1, 5, 1, 0), 86398 + 86400);
    }

    void p43_polarDays() {
        text(PLAIN + "t0;x0,1;", 4);
        due(x.lag(1, 5, 0, 0), AWAY);
        due(x.lag(4, 5, 0, 0), AWAY);
        due(x.lag(5, 5, 0, 0), AWAY);
    }

    void p43_noNight() {
        text(PLAIN + "t0;p0,21600,64800;x1,1;p2,21600,64800;", 6);
        due(x.lag(1, 0, 0, 0), 0);
        due(x.lag(1, 0, 1, 0), AWAY);
        due(x.lag(4, 0, 1, 0), AWAY);
        due(x.lag(1, 2, 1, 0), 0);
        due(x.lag(0, 35999, 1, 0), AWAY);
    }

    void p43_aPlaceThatIsNotThere() {
        text(PLAIN + "t0;" + SEVEN, 4);
        due(x.lag(1, 5, 0, 719), AWAY);
        due(x.lag(4, 5, 0, 719), AWAY);
        due(x.lag(1, 5, 0, 0), -21600);
    }

    void p43_midnight() {
        text(PLAIN + "t0;" + LONGEST, 4);
        due(x.lag(1, 5, 0, 0), -21600);
        due(x.lag(4, 5, 0, 0), 21600);
        due(x.lag(5, 5, 0, 0), 0);
    }

    void p43_oneTown() {
        text(PLAIN, 2);
        due(x.lag(0, 5, 1, 719), 0);
    }
}
