/** Boundaries of RINGS: promises 16 to 19, 30, 39, 40. */
final class EdgesOfBells extends Cases {
    /** NIGHTS of one second, which begin with the last second of each DAY. */
    private static final String LONGEST = "t0;p0,0,86399;";
    private static final String SEVEN = "t0;p0,0,7;";
    /** On DAY 1 HOURS 4 to 11 of the NIGHT ahead and of its own NIGHT begin. */
    private static final String TWICE = "t0;p0,1,80000;p1,40000,40001;p2,1,80000;";
    private static final String EIGHT = "n4*24;n5*24;n6*24;n7*24;n8*24;n9*24;n10*24;n11*24;";
    private static final String FOUR = PLAIN + "t0;t0;" + PLAIN;
    /** POLAR on YDAY 1 alone. */
    private static final String GAP = "t0;p0,21600,64800;x1,1;p2,21600,64800;";

    // ---- 16: ring ----

    private int ring(int[] a) {
        return x.ring(a[0], a[1], a[2], a[3]);
    }

    private void rings(int day, int... seconds) {
        due(x.ring(0, day, NONE, 0), seconds.length);
        for (int i = 0; i < seconds.length; i++) {
            due(x.ring(0, day, i, 0), seconds[i]);
        }
        due(x.ring(0, day, seconds.length, 0), NONE);
    }

    void p16_whichTown() {
        text(FOUR, 6);
        bells("d1*1;", 1);
        bounds(this::ring, with(0, 5, 0, 0), 0, 0, 25200, 3, 25200, NONE);
        bounds(this::ring, with(0, 5, NONE, 0), 0, 0, 1, 3, 1, NONE);
        due(x.ring(1, 5, NONE, 0), 0);
    }

    void p16_day() {
        text(PLAIN, 2);
        bells("d1*1;", 1);
        bounds(this::ring, with(0, 5, 0, 0), 1, 0, 25200, 35999, 25200, NONE);
        bounds(this::ring, with(0, 5, NONE, 0), 1, 0, 1, 35999, 1, NONE);
    }

    void p16_whichRing() {
        text(PLAIN, 2);
        bells("d1*1;d2*1;", 2);
        bounds(this::ring, with(0, 5, 0, 0), 2, -1, 2, 1, 28800, NONE);
        due(x.ring(0, 5, 0, 0), 25200);
    }

    void p16_what() {
        text(PLAIN, 2);
        bells("d9*1?1>2;d1*24;", 2);
        bounds(this::ring, with(0, 5, 0, 0), 3, 0, 25200, 2, 24, NONE);
        due(x.ring(0, 5, 0, 1), 1);
    }

    void p16_noBells() {
        text(PLAIN, 2);
        rings(5);
    }

    void p16_noPoints() {
        text("t0;", 1);
        bells("d0*1;n0*1;", 2);
        rings(5);
    }

    void p16_sixteenRings() {
        text(TWICE, 4);
        bells(EIGHT, 8);
        rings(1, 9067, 12934, 16800, 20667, 24534, 28400, 32267, 36134,
            55468, 59335, 63201, 67068, 70935, 74801, 78668, 82535);
        due(x.ring(0, 1, 7, 1), 7);
        due(x.ring(0, 1, 8, 1), 0);
        due(x.ring(0, 1, 15, 1), 7);
        due(x.ring(0, 1, 15, 2), 24);
    }

    void p16_bySeconds() {
        text(PLAIN, 2);
        bells("n0*1;d11*2;d0*3;n7*4;", 4);
        rings(5, 3600, 21600, 61200, 64800);
        due(x.ring(0, 5, 0, 1), 3);
        due(x.ring(0, 5, 1, 1), 2);
        due(x.ring(0, 5, 2, 1), 1);
        due(x.ring(0, 5, 3, 1), 0);
        due(x.ring(0, 5, 0, 2), 4);
    }

    void p16_ofLikeSecondsByNumbers() {
        text(PLAIN, 2);
        bells("d5*3;d4*1;d5*2;d5.0*1;", 4);
        rings(5, 36000, 39600, 39600, 39600);
        due(x.ring(0, 5, 0, 1), 1);
        due(x.ring(0, 5, 1, 1), 0);
        due(x.ring(0, 5, 2, 1), 2);
        due(x.ring(0, 5, 3, 1), 3);
    }

    void p16_ofLikeSecondsOfOtherPlacesByNumbersToo() {
        text(SEVEN, 2);
        x.parts(1);
        bells("d3*1;d2*2;", 2);
        rings(5, 2, 2);
        due(x.ring(0, 5, 0, 1), 0);
        due(x.ring(0, 5, 1, 1), 1);
    }

    void p16_fromMidnightOn() {
        text(PLAIN, 2);
        bells("n5.59*1;n6*1;", 2);
        rings(5, 0, 86340);
        due(x.ring(0, 5, 0, 1), 1);
    }

    void p16_upToTheNextMidnight() {
        text(LONGEST, 2);
        bells("n0*1;d0*1;", 2);
        rings(0, 0, 86399);
        rings(35998, 0, 86399);
    }

    void p16_theFirstDayHasNoNightAhead() {
        text(PLAIN, 2);
        bells("n7*1;", 1);
        rings(0);
        rings(1, 3600);
    }

    void p16_theLastDayHasNoNight() {
        text(PLAIN, 2);
        bells("n1*1;n7*1;", 2);
        rings(35998, 3600, 68400);
        rings(35999, 3600);
    }

    void p16_aPolarDay() {
        text(GAP, 4);
        bells("d0*1;n0*1;n7*1;", 3);
        rings(0, 21600);
        rings(1);
        rings(2, 21600, 64800);
        rings(3, 3600, 21600, 64800);
        rings(360, 3600, 21600);
    }

    void p16_partBelowParts() {
        text(PLAIN, 2);
        bells("d0.59*1;d0.60*1;", 2);
        rings(5, 25140);
        x.parts(61);
        due(x.ring(0, 5, NONE, 0), 2);
        x.parts(59);
        rings(5);
    }

    void p16_partLast() {
        text(PLAIN, 2);
        bells("d11.3599*1;", 1);
        x.parts(3599);
        rings(5);
        x.parts(3600);
        rings(5, 64799);
    }

    void p16_backThatIsNotThere() {
        text(SEVEN, 2);
        x.parts(1);
        bells("d11*1;d10*1;", 2);
        rings(5, 6);
        due(x.ring(0, 5, 0, 1), 1);
    }

    private boolean holds(int town, int day, String cond) {
        bells("d0*1?" + cond + ";", 1);
        return x.ring(town, day, NONE, 0) == 1;
    }

    void p16_weekdays() {
        text(PLAIN, 2);
        due(holds(0, 0, "w=0"), true);
        due(holds(0, 6, "w=6"), true);
        due(holds(0, 7, "w=0"), true);
        due(holds(0, 35999, "w=5"), true);
    }

    void p16_ydays() {
        text(PLAIN, 2);
        due(holds(0, 0, "y=0"), true);
        due(holds(0, 359, "y=359"), true);
        due(holds(0, 360, "y=0"), true);
        due(holds(0, 35999, "y=359"), true);
    }

    void p16_days() {
        text(PLAIN, 2);
        due(holds(0, 0, "z=0"), true);
        due(holds(0, 360, "z=360"), true);
        due(holds(0, 35999, "z=35999"), true);
    }

    void p16_towns() {
        text(FOUR, 6);
        due(holds(0, 5, "t=0"), true);
        due(holds(3, 5, "t=3"), true);
        due(holds(3, 5, "t=0"), false);
    }

    void p16_lengths() {
        text(LONGEST, 2);
        bells("d0*1?l=86399;n0*1?l=1;d1*1?l=1;", 3);
        rings(5, 0, 86399);
    }

    void p16_lessMoreLike() {
        text(PLAIN, 2);
        due(holds(0, 5, "4<5"), true);
        due(holds(0, 5, "5<5"), false);
        due(holds(0, 5, "5<4"), false);
        due(holds(0, 5, "5>4"), true);
        due(holds(0, 5, "5>5"), false);
        due(holds(0, 5, "4>5"), false);
        due(holds(0, 5, "5=5"), true);
        due(holds(0, 5, "4=5"), false);
        due(holds(0, 5, "5=4"), false);
    }

    void p16_bothBeforeEither() {
        text(PLAIN, 2);
        due(holds(0, 5, "1<2|1<2&2<1"), true);
        due(holds(0, 5, "2<1&1<2|1<2"), true);
        due(holds(0, 5, "2<1&1<2|2<1"), false);
        due(holds(0, 5, "1<2&2<1|2<1&1<2"), false);
        due(holds(0, 5, "2<1|1<2|2<1"), true);
        due(holds(0, 5, "1<2&1<2&2<1"), false);
        due(holds(0, 5, "2<1&1<2&1<2"), false);
        due(holds(0, 5, "1<2&1<2"), true);
        due(holds(0, 5, "1<2&1<2&1<2"), true);
        due(holds(0, 5, "2<1|1<2&1<2"), true);
        due(holds(0, 5, "2<1|2<1"), false);
    }

    void p16_productsBeforeSums() {
        text(PLAIN, 2);
        due(holds(0, 5, "2+3*4=14"), true);
        due(holds(0, 5, "10-2*3=4"), true);
        due(holds(0, 5, "2*3+4*5=26"), true);
        due(holds(0, 5, "14=2+3*4"), true);
    }

    void p16_fromLeftToRight() {
        text(PLAIN, 2);
        due(holds(0, 5, "10-3-2=5"), true);
        due(holds(0, 5, "10-3+2=9"), true);
        due(holds(0, 5, "7/2*2=6"), true);
        due(holds(0, 5, "2*7/2=7"), true);
        due(holds(0, 5, "24/4/2=3"), true);
    }

    void p16_below0() {
        text(PLAIN, 2);
        due(holds(0, 5, "0-1<0"), true);
        due(holds(0, 5, "3-5=0-2"), true);
    }

    void p16_byNothing() {
        text(PLAIN, 2);
        due(holds(0, 5, "5/0=0"), true);
        due(holds(0, 5, "1+5/0*3=1"), true);
        due(holds(0, 7, "5/w=0"), true);
        due(holds(0, 0, "0/z=0"), true);
    }

    void p16_cutTowards0() {
        text(PLAIN, 2);
        due(holds(0, 5, "7/2=3"), true);
        // 65536 * 32769 wraps to -2147418112: its third is -715806037 and a third.
        due(holds(0, 5, "65536*32769/3+65536*10922+21845=0"), true);
        due(holds(0, 5, "0-65536*32769/3=65536*10922+21845"), true);
    }

    void p16_productsThatWrap() {
        text(PLAIN, 2);
        due(holds(0, 5, "65536*32767>0"), true);
        due(holds(0, 5, "65536*32768<0"), true);
        due(holds(0, 5, "65536*65536=0"), true);
        due(holds(0, 5, "65536*65536+1=1"), true);
        due(holds(0, 5, "99999*42950=0-10246"), true);
    }

    void p16_sumsThatWrap() {
        text(PLAIN, 2);
        due(holds(0, 5, "65536*32767+65535>0"), true);
        due(holds(0, 5, "65536*32767+65535+1<0"), true);
        due(holds(0, 5, "0-65536*32767-65535-1<0"), true);
        due(holds(0, 5, "0-65536*32767-65535-2>0"), true);
    }

    void p16_theLeastOfAllNumbers() {
        text(PLAIN, 2);
        due(holds(0, 5, "65536*32768/1<0"), true);
        due(holds(0, 5, "0-65536*32768<0"), true);
        due(holds(0, 5, "0-65536*32768/2=65536*16384"), true);
        due(holds(0, 5, "65536*32768<65536*32767"), true);
    }

    void p16_fortyThings() {
        text(PLAIN, 2);
        due(holds(0, 6, "228=" + repeated("w+", 38) + "w"), false);
        due(holds(0, 6, "234=" + repeated("w+", 38) + "w"), true);
    }

    void p16_fortyNumbers() {
        text(PLAIN, 2);
        due(holds(0, 6, "44=" + repeated("1+", 38) + "6"), true);
        due(holds(0, 6, "45=" + repeated("1+", 38) + "6"), false);
        bells(repeated("d0*1?1+1+1+1=3;", 7) + "d1*1?1+1+1+1=4;", 8);
        due(x.ring(0, 6, NONE, 0), 1);
        due(x.ring(0, 6, 0, 1), 7);
    }

    void p16_theThingsOfEachBellAreItsOwn() {
        text(PLAIN, 2);
        bells("d0*1?1>2;d1*1;d2*1?1<2;d3*1?2<1|1>2;", 4);
        rings(5, 25200, 28800);
        due(x.ring(0, 5, 0, 1), 1);
        due(x.ring(0, 5, 1, 1), 2);
    }

    // ---- 17: strokes ----

    void p17_whichTown() {
        text(FOUR, 6);
        bells("d1*7;", 1);
        bounds(a -> x.strokes(a[0], a[1]), with(0, 5), 0, 0, 7, 3, 7, NONE);
    }

    void p17_day() {
        text(PLAIN, 2);
        bells("d1*7;", 1);
        bounds(a -> x.strokes(a[0], a[1]), with(0, 5), 1, 0, 7, 35999, 7, NONE);
    }

    void p17_none() {
        text(PLAIN, 2);
        due(x.strokes(0, 5), 0);
        bells("d1*7?1>2;", 1);
        due(x.strokes(0, 5), 0);
    }

    void p17_mostOfAll() {
        text(TWICE, 4);
        bells(EIGHT, 8);
        due(x.strokes(0, 1), 16 * 24);
    }

    void p17_theNightsOfTwoDays() {
        text(PLAIN, 2);
        bells("n0*3;n6*5;", 2);
        due(x.strokes(0, 0), 3);
        due(x.strokes(0, 1), 8);
        due(x.strokes(0, 35999), 5);
    }

    // ---- 18: soonest ----

    private int soonest(int[] a) {
        return x.soonest(a[0], a[1], a[2]);
    }

    void p18_whichTown() {
        text(FOUR, 6);
        bells("d1*1;", 1);
        bounds(this::soonest, with(0, 5, 0), 0, 0, 25200, 3, 25200, NONE);
    }

    void p18_day() {
        text(PLAIN, 2);
        bells("d1*1;", 1);
        bounds(this::soonest, with(0, 5, 0), 1, 0, 25200, 35999, 25200, NONE);
    }

    void p18_second() {
        text(PLAIN, 2);
        bells("d1*1;", 1);
        bounds(this::soonest, with(0, 5, 0), 2, 0, 25200, 86399, 25201, NONE);
    }

    void p18_then() {
        text(PLAIN, 2);
        bells("d1*1;d2*1;", 2);
        due(x.soonest(0, 5, 25200), 0);
        due(x.soonest(0, 5, 25201), 3599);
        due(x.soonest(0, 5, 28800), 0);
        due(x.soonest(0, 5, 28801), 86400 + 25200 - 28801);
    }

    void p18_atTheNextMidnight() {
        text(PLAIN, 2);
        bells("n6*1;", 1);
        due(x.soonest(0, 5, 86399), 1);
        due(x.soonest(0, 5, 0), 0);
        due(x.soonest(0, 0, 0), 86400);
    }

    void p18_upToTheEndOfTheNextDay() {
        text(LONGEST, 2);
        bells("n0*1?z=6;", 1);
        due(x.soonest(0, 6, 86399), 0);
        due(x.soonest(0, 5, 86399), 86400);
        due(x.soonest(0, 5, 0), 172799);
        due(x.soonest(0, 4, 86399), -2);
    }

    void p18_behindTheLastRing() {
        text(LONGEST, 2);
        bells("d0*1?z=6;", 1);
        due(x.soonest(0, 6, 0), 0);
        due(x.soonest(0, 6, 1), -2);
        due(x.soonest(0, 5, 0), 86400);
        due(x.soonest(0, 5, 86399), 1);
        due(x.soonest(0, 4, 86399), -2);
    }

    void p18_theLastDay() {
        text(PLAIN, 2);
        bells("d1*1;n6*1;", 2);
        due(x.soonest(0, 35999, 0), 0);
        due(x.soonest(0, 35999, 25200), 0);
        due(x.soonest(0, 35999, 25201), -2);
        due(x.soonest(0, 35998, 25201), 86400 - 25201);
    }

    void p18_none() {
        text(PLAIN, 2);
        due(x.soonest(0, 5, 0), -2);
    }

    // ---- 19: clash ----

    private int clash(int[] a) {
        return x.clash(a[0], a[1], a[2]);
    }

    void p19_whichTown() {
        text(FOUR, 6);
        bells("d1*1;d2*1;", 2);
        bounds(this::clash, with(0, 5, 3601), 0, 0, 1, 3, 1, NONE);
    }

    void p19_day() {
        text(PLAIN, 2);
        bells("d1*1;d2*1;", 2);
        bounds(this::clash, with(0, 5, 3601), 1, 0, 1, 35999, 1, NONE);
    }

    void p19_seconds() {
        text(PLAIN, 2);
        bells("d1*1;d1*1;d11*1;", 3);
        bounds(this::clash, with(0, 5, 0), 2, 0, 0, 86400, 2, NONE);
    }

    void p19_lessThanSoMany() {
        text(PLAIN, 2);
        bells("d1*1;d2*1;", 2);
        due(x.clash(0, 5, 3600), 0);
        due(x.clash(0, 5, 3601), 1);
    }

    void p19_atOnce() {
        text(PLAIN, 2);
        bells("d1*1;d1*1;d1*1;", 3);
        due(x.clash(0, 5, 0), 0);
        due(x.clash(0, 5, 1), 2);
    }

    void p19_farthestApart() {
        text(LONGEST, 2);
        bells("d0*1;n0*1;", 2);
        due(x.clash(0, 5, 86399), 0);
        due(x.clash(0, 5, 86400), 1);
    }

    void p19_theDayAheadDoesNotCount() {
        text(LONGEST, 2);
        bells("d0*1?z=6;n0*1?z=5;", 2);
        due(x.clash(0, 6, 86400), 0);
        due(x.clash(0, 5, 86400), 0);
    }

    void p19_theOneAheadAlone() {
        text(PLAIN, 2);
        bells("d1*1;d1.30*1;d2*1;", 3);
        due(x.clash(0, 5, 1800), 0);
        due(x.clash(0, 5, 1801), 2);
    }

    void p19_fewRings() {
        text(PLAIN, 2);
        due(x.clash(0, 5, 86400), 0);
        bells("d1*1;", 1);
        due(x.clash(0, 5, 86400), 0);
    }

    void p19_sixteenRings() {
        text(TWICE, 4);
        bells(EIGHT, 8);
        due(x.clash(0, 1, 86400), 15);
    }

    // ---- 30: busiest ----

    private int busiest(int[] a) {
        return x.busiest(a[0], a[1], a[2], a[3]);
    }

    void p30_whichTown() {
        text(FOUR, 6);
        bells("d1*1;", 1);
        bounds(this::busiest, with(0, 5, 1, 1), 0, 0, 1, 3, 1, NONE);
    }

    void p30_day() {
        text(PLAIN, 2);
        bells("d1*1;", 1);
        bounds(this::busiest, with(0, 5, 2, 1), 1, 0, 2, 35999, 1, NONE);
    }

    void p30_howMany() {
        text(PLAIN, 2);
        bells("d1*1;", 1);
        bounds(this::busiest, with(0, 5, 1, 1), 2, 1, 1, 60, 60, NONE);
    }

    void p30_what() {
        text(PLAIN, 2);
        bells("d1*1?1>2;d2*1;", 2);
        bounds(this::busiest, with(0, 5, 7, 0), 3, 0, 1, 1, 7, NONE);
    }

    void p30_ofLikeOnesTheFirst() {
        text(PLAIN, 2);
        bells("d1*1?z<5;d2*1;d3*1;", 3);
        due(x.busiest(0, 0, 5, 0), 0);
        due(x.busiest(0, 0, 6, 0), 1);
        due(x.busiest(0, 0, 6, 1), 6);
    }

    void p30_noRings() {
        text(PLAIN, 2);
        due(x.busiest(0, 5, 60, 0), NONE);
        due(x.busiest(0, 5, 60, 1), 0);
        bells("d1*1?1>2;", 1);
        due(x.busiest(0, 5, 60, 0), NONE);
        due(x.busiest(0, 5, 60, 1), 0);
    }

    void p30_above35999() {
        text(PLAIN, 2);
        bells("n7*1;d1*1;", 2);
        due(x.busiest(0, 35940, 60, 1), 60);
        due(x.busiest(0, 35941, 60, 1), 59);
        due(x.busiest(0, 35999, 60, 1), 1);
        due(x.busiest(0, 35999, 60, 0), 0);
    }

    void p30_theLastDayOfSoMany() {
        text(PLAIN, 2);
        bells("d1*1?z=9;", 1);
        due(x.busiest(0, 5, 4, 1), 0);
        due(x.busiest(0, 5, 5, 1), 1);
        due(x.busiest(0, 9, 1, 1), 1);
        due(x.busiest(0, 10, 60, 1), 0);
    }

    void p30_twiceADay() {
        text(TWICE, 4);
        bells("d0*1;n4*1;", 2);
        due(x.busiest(0, 1, 1, 0), 1);
        due(x.busiest(0, 1, 1, 1), 2);
    }

    void p30_theLastBell() {
        text(TWICE, 4);
        bells("d0*1;d0*1;d0*1;d0*1;d0*1;d0*1;d0*1;n11*1;", 8);
        due(x.busiest(0, 1, 1, 0), 7);
    }

    void p30_anotherQuestionBeginsAnew() {
        text(PLAIN, 2);
        bells("d1*1;", 1);
        due(x.busiest(0, 5, 60, 1), 60);
        due(x.busiest(0, 5, 1, 1), 1);
    }

    // ---- 39: total ----

    private int total(int[] a) {
        return x.total(a[0], a[1], a[2]);
    }

    void p39_whichTown() {
        text(FOUR, 6);
        bells("d1*7;", 1);
        bounds(this::total, with(0, 5, 2), 0, 0, 14, 3, 14, NONE);
    }

    void p39_day() {
        text(PLAIN, 2);
        bells("d1*7;", 1);
        bounds(this::total, with(0, 5, 2), 1, 0, 14, 35999, 7, NONE);
    }

    void p39_howMany() {
        text(PLAIN, 2);
        bells("d1*7;", 1);
        bounds(this::total, with(0, 5, 1), 2, 1, 7, 60, 420, NONE);
    }

    void p39_above35999() {
        text(PLAIN, 2);
        bells("d1*1;", 1);
        due(x.total(0, 35940, 60), 60);
        due(x.total(0, 35941, 60), 59);
        due(x.total(0, 35999, 60), 1);
    }

    void p39_theLastDayOfSoMany() {
        text(PLAIN, 2);
        bells("d1*7?z=9;", 1);
        due(x.total(0, 5, 4), 0);
        due(x.total(0, 5, 5), 7);
        due(x.total(0, 9, 1), 7);
        due(x.total(0, 10, 60), 0);
    }

    void p39_none() {
        text(PLAIN, 2);
        due(x.total(0, 5, 60), 0);
    }

    // ---- 40: quiet ----

    private int quiet(int[] a) {
        return x.quiet(a[0], a[1], a[2]);
    }

    void p40_whichTown() {
        text(FOUR, 6);
        bells("d1*1;", 1);
        bounds(this::quiet, with(0, 5, 0), 0, 0, 25200, 3, 25200, NONE);
    }

    void p40_day() {
        text(PLAIN, 2);
        bells("d1*1;", 1);
        bounds(this::quiet, with(0, 5, 0), 1, 0, 25200, 35999, 25200, NONE);
    }

    void p40_what() {
        text(PLAIN, 2);
        bells("d1*1;", 1);
        bounds(this::quiet, with(0, 5, 0), 2, 0, 25200, 1, 61200, NONE);
    }

    void p40_noRings() {
        text(PLAIN, 2);
        due(x.quiet(0, 5, 0), 0);
        due(x.quiet(0, 5, 1), 86400);
    }

    private void quietest(int begins, int lasts) {
        due(x.quiet(0, 5, 0), begins);
        due(x.quiet(0, 5, 1), lasts);
    }

    void p40_fromMidnight() {
        text(PLAIN, 2);
        bells("d11*1;", 1);
        quietest(0, 61200);
    }

    void p40_toMidnight() {
        text(PLAIN, 2);
        bells("d0*1;", 1);
        quietest(21600, 64800);
    }

    void p40_betweenRings() {
        text(PLAIN, 2);
        bells("n9*1;n3*1;", 2);
        quietest(10800, 75600 - 10800);
    }

    void p40_ofLikeOnesTheFirst() {
        text(PLAIN, 2);
        bells("d6*1;", 1);
        quietest(0, 43200);
        bells("n8*1;d2*1;d10*1;n4*1;", 4);
        // At 7200, 28800, 57600, 79200: 21600, 28800, 21600 between them.
        quietest(28800, 28800);
        bells("n8*1;d2*1;d8*1;n4*1;", 4);
        // At 7200, 28800, 50400, 79200.
        quietest(50400, 28800);
        bells("n6*1;d2*1;d10*1;", 3);
        // At 0, 28800, 57600: 28800 between them and behind them.
        quietest(0, 28800);
    }

    void p40_aRingAtMidnight() {
        text(LONGEST, 2);
        bells("d0*1;", 1);
        quietest(0, 86400);
        bells("d0*1;n0*1;", 2);
        quietest(0, 86399);
    }

    void p40_aRingWithTheLastSecond() {
        text(LONGEST, 2);
        bells("n0*1;", 1);
        quietest(0, 86399);
    }
}
