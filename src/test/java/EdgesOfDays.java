/** Boundaries of one TOWN's DAYS, LIGHTS, NIGHTS: promises 10 to 13, 15, 25, 26, 33, 36, 42. */
final class EdgesOfDays extends Cases {
    /** POLAR 1 on YDAYS 1 and 2 alone: no NIGHT of YDAY 0, no NIGHT of the DAY ahead on YDAY 3. */
    private static final String GAP = "t0;p0,21600,64800;x1,1;x2,1;p3,21600,64800;";
    /** The longest LIGHT there can be, and NIGHTS of one second. */
    private static final String LONGEST = "t0;p0,0,86399;";
    /** LIGHTS of one second, and the longest NIGHT there can be: on YDAY 0. */
    private static final String SHORTEST = "t0;p0,0,1;p1,86398,86399;";
    /** A LIGHT of seven seconds. */
    private static final String SEVEN = "t0;p0,0,7;";

    // ---- 10: town ----

    void p10_whichTown() {
        text("t5;t6;t7;t8;", 4);
        bounds(a -> x.town(a[0], a[1]), with(0, 0), 0, 0, 5, 3, 8, AWAY);
    }

    void p10_oneBehindTheLast() {
        text("t5;", 1);
        due(x.town(1, 0), AWAY);
        due(x.town(0, 0), 5);
    }

    void p10_what() {
        text("t5;p6,7,8;", 2);
        bounds(a -> x.town(a[0], a[1]), with(0, 0), 1, 0, 5, 1, 1, AWAY);
        bounds(a -> x.town(a[0], a[1]), with(0, 0), 1, 10, 6, 13, -1, AWAY);
        for (int what = 2; what < 10; what++) {
            due(x.town(0, what), AWAY);
        }
    }

    void p10_noPoints() {
        text("t5;", 1);
        due(x.town(0, 1), 0);
        due(x.town(0, 10), AWAY);
    }

    void p10_theTwelfthPoint() {
        text("t0;", 1);
        for (int i = 0; i < 12; i++) {
            due(x.set(0, 10 * i, i, i + 1), i + 1);
        }
        bounds(a -> x.town(a[0], a[1]), with(0, 0), 1, 10, 0, 10 + 4 * 11 + 3, -1, AWAY);
        due(x.town(0, 10 + 4 * 11), 110);
        due(x.town(0, 10 + 4 * 11 + 1), 11);
        due(x.town(0, 10 + 4 * 11 + 2), 12);
    }

    void p10_aPolarPoint() {
        text("t0;x5,0;x6,1;", 3);
        due(x.town(0, 10), 5);
        due(x.town(0, 11), -1);
        due(x.town(0, 12), -1);
        due(x.town(0, 13), 0);
        due(x.town(0, 17), 1);
    }

    void p10_aPointThatIsNotPolar() {
        text("t0;p0,0,1;", 2);
        due(x.town(0, 10), 0);
        due(x.town(0, 11), 0);
        due(x.town(0, 12), 1);
        due(x.town(0, 13), -1);
    }

    void p10_whatARemovedPointLeaves() {
        text("t0;p1,2,3;p4,5,6;", 3);
        x.remove(0, 4);
        due(x.town(0, 14), AWAY);
        due(x.town(0, 10), 1);
    }

    // ---- 11: table ----

    void p11_whichTown() {
        text("t0;p0,1,3;t0;t0;t0;p0,2,5;", 6);
        bounds(a -> x.table(a[0], a[1], a[2]), with(0, 0, 0), 0, 0, 1, 3, 2, NONE);
        due(x.table(1, 0, 0), -2);
    }

    void p11_oneBehindTheLastTown() {
        text(PLAIN, 2);
        due(x.table(1, 0, 4), NONE);
        due(x.table(0, 0, 2), 43200);
    }

    void p11_day() {
        text("t0;p0,21600,64800;p359,3,5;", 3);
        bounds(a -> x.table(a[0], a[1], a[2]), with(0, 0, 0), 1, 0, 21600, 35999, 3, NONE);
    }

    void p11_what() {
        text(PLAIN, 2);
        bounds(a -> x.table(a[0], a[1], a[2]), with(0, 5, 0), 2, 0, 21600, 4, -1, NONE);
        due(x.table(0, 5, 1), 64800);
        due(x.table(0, 5, 2), 43200);
        due(x.table(0, 5, 3), 43200);
    }

    void p11_wrongGoesAheadOfPolar() {
        text("t0;", 1);
        due(x.table(0, 0, 5), NONE);
        due(x.table(0, 36000, 0), NONE);
    }

    void p11_withoutPoints() {
        text("t0;", 1);
        for (int what = 0; what <= 3; what++) {
            due(x.table(0, 5, what), -2);
        }
        due(x.table(0, 0, 4), 0);
        due(x.table(0, 35999, 4), 0);
    }

    void p11_aPointAlone() {
        text("t0;p100,7,9;t0;x100,1;", 4);
        for (int day : new int[] {0, 99, 100, 101, 359, 360, 35999}) {
            due(x.table(0, day, 0), 7);
            due(x.table(0, day, 1), 9);
            due(x.table(1, day, 4), 1);
        }
    }

    void p11_theYearTurns() {
        text("t0;p10,1000,2000;p350,3000,5000;", 3);
        due(x.table(0, 350, 0), 3000);
        due(x.table(0, 351, 0), 2900);
        due(x.table(0, 359, 0), 2100);
        due(x.table(0, 360, 0), 2000);
        due(x.table(0, 0, 0), 2000);
        due(x.table(0, 0, 1), 3500);
        due(x.table(0, 9, 0), 1100);
        due(x.table(0, 10, 0), 1000);
        due(x.table(0, 11, 0), 1005);
        due(x.table(0, 11, 1), 2008);
        due(x.table(0, 349, 0), 2994);
    }

    void p11_lastAndFirstYday() {
        text("t0;p0,1000,5000;p359,2000,4000;", 3);
        due(x.table(0, 0, 0), 1000);
        due(x.table(0, 1, 0), 1002);
        due(x.table(0, 358, 0), 1997);
        due(x.table(0, 359, 0), 2000);
        due(x.table(0, 360, 1), 5000);
        due(x.table(0, 359, 3), 86400 + 1000 - 4000);
    }

    void p11_cutDownwardsAsItFalls() {
        text("t0;p0,10,100;p180,9,101;", 3);
        due(x.table(0, 1, 0), 9);
        due(x.table(0, 179, 0), 9);
        due(x.table(0, 180, 0), 9);
        due(x.table(0, 181, 1), 100);
        due(x.table(0, 359, 1), 100);
    }

    void p11_cutDownwardsAsItRises() {
        text("t0;p0,10,100;p180,9,101;", 3);
        due(x.table(0, 1, 1), 100);
        due(x.table(0, 179, 1), 100);
        due(x.table(0, 180, 1), 101);
        due(x.table(0, 181, 0), 9);
        due(x.table(0, 359, 0), 9);
        due(x.table(0, 360, 0), 10);
    }

    void p11_cutOfAWholeNumberIsThatNumber() {
        text("t0;p0,10,100;p4,6,104;", 3);
        due(x.table(0, 1, 0), 9);
        due(x.table(0, 3, 0), 7);
        due(x.table(0, 3, 1), 103);
    }

    void p11_farthestFall() {
        text("t0;p0,86398,86399;p359,0,1;", 3);
        due(x.table(0, 358, 0), 240);
        due(x.table(0, 358, 1), 241);
        due(x.table(0, 1, 2), 1);
    }

    void p11_polarAhead() {
        text("t0;x100,0;p200,7,9;", 3);
        due(x.table(0, 100, 4), 0);
        due(x.table(0, 101, 4), 0);
        due(x.table(0, 199, 4), 0);
        due(x.table(0, 200, 4), -1);
    }

    void p11_polarNext() {
        text("t0;p100,7,9;x200,1;", 3);
        due(x.table(0, 100, 4), -1);
        due(x.table(0, 100, 0), 7);
        due(x.table(0, 101, 4), 1);
        due(x.table(0, 199, 0), -2);
        due(x.table(0, 200, 4), 1);
        due(x.table(0, 201, 4), 1);
        due(x.table(0, 99, 4), 1);
    }

    void p11_bothPolarTheOneAheadFirst() {
        text("t0;x100,1;x200,0;", 3);
        due(x.table(0, 150, 4), 1);
        due(x.table(0, 250, 4), 0);
        due(x.table(0, 50, 4), 0);
    }

    void p11_aPointBetweenPolarOnes() {
        text("t0;x0,1;p1,100,200;x2,0;", 4);
        due(x.table(0, 0, 4), 1);
        due(x.table(0, 1, 4), -1);
        due(x.table(0, 1, 2), 100);
        due(x.table(0, 2, 4), 0);
        due(x.table(0, 1, 3), -2);
    }

    void p11_noNightAheadOfAPolarDay() {
        text(GAP, 5);
        due(x.table(0, 0, 2), 43200);
        due(x.table(0, 0, 3), -2);
        due(x.table(0, 1, 3), -2);
        due(x.table(0, 2, 3), -2);
        due(x.table(0, 3, 3), 43200);
    }

    void p11_noNightOfTheLastDay() {
        text(PLAIN, 2);
        due(x.table(0, 35998, 3), 43200);
        due(x.table(0, 35999, 3), -2);
        due(x.table(0, 35999, 2), 43200);
        due(x.table(0, 35999, 4), -1);
    }

    void p11_aNightRoundTheYear() {
        text("t0;p0,20000,40000;p359,10000,50000;", 3);
        due(x.table(0, 359, 3), 86400 + 20000 - 50000);
    }

    void p11_longestAndShortest() {
        text(LONGEST, 2);
        due(x.table(0, 0, 2), 86399);
        due(x.table(0, 0, 3), 1);
        text(SHORTEST, 3);
        due(x.table(1, 0, 2), 1);
        due(x.table(1, 0, 3), 172797);
    }

    // ---- 12: turn ----

    private int turn(int[] a) {
        return x.turn(a[0], a[1], a[2], a[3]);
    }

    void p12_whichTown() {
        text(PLAIN + "t0;t0;" + PLAIN, 6);
        bounds(this::turn, with(0, 5, 21600, 0), 0, 0, 5, 3, 5, NONE);
    }

    void p12_day() {
        text(PLAIN, 2);
        bounds(this::turn, with(0, 5, 21600, 0), 1, 0, 0, 35999, 35999, NONE);
    }

    void p12_second() {
        text(PLAIN, 2);
        bounds(this::turn, with(0, 5, 0, 5), 2, 0, 21600, 86399, 21599, NONE);
    }

    void p12_what() {
        text(PLAIN, 2);
        bounds(this::turn, with(0, 5, 21605, 0), 3, 0, 5, 5, 5, NONE);
    }

    void p12_wrongGoesAheadOfNone() {
        text("t0;", 1);
        due(x.turn(0, 0, 0, 6), NONE);
        due(x.turn(0, 0, 0, 0), -2);
    }

    private void turned(int day, int second, int... want) {
        for (int what = 0; what < want.length; what++) {
            due(x.turn(0, day, second, what), want[what]);
        }
    }

    private void turnedToNone(int day, int second) {
        turned(day, second, -2, -2, -2, -2, -2, -2);
    }

    void p12_fromDawnOn() {
        text(PLAIN, 2);
        turned(5, 21599, 4, 1, 11, 59, 719, 43199);
        turned(5, 21600, 5, 0, 0, 0, 0, 0);
    }

    void p12_fromDuskOn() {
        text(PLAIN, 2);
        turned(5, 64799, 5, 0, 11, 59, 719, 43199);
        turned(5, 64800, 5, 1, 0, 0, 0, 0);
    }

    void p12_atMidnight() {
        text(PLAIN, 2);
        turned(5, 86399, 5, 1, 5, 59, 359, 21599);
        turned(6, 0, 5, 1, 6, 0, 360, 21600);
    }

    void p12_fromHourToHour() {
        text(PLAIN, 2);
        turned(5, 25199, 5, 0, 0, 59, 59, 3599);
        turned(5, 25200, 5, 0, 1, 0, 60, 3600);
    }

    void p12_fromPartToPart() {
        text(PLAIN, 2);
        turned(5, 21659, 5, 0, 0, 0, 0, 59);
        turned(5, 21660, 5, 0, 0, 1, 1, 60);
    }

    void p12_aheadOfTheFirstDawn() {
        text(PLAIN, 2);
        turnedToNone(0, 0);
        turnedToNone(0, 21599);
        turned(0, 21600, 0, 0, 0, 0, 0, 0);
    }

    void p12_behindTheLastDusk() {
        text(PLAIN, 2);
        turned(35999, 64799, 35999, 0, 11, 59, 719, 43199);
        turnedToNone(35999, 64800);
        turnedToNone(35999, 86399);
        turned(35998, 86399, 35998, 1, 5, 59, 359, 21599);
    }

    void p12_aPolarDay() {
        text(GAP, 5);
        turnedToNone(1, 0);
        turnedToNone(1, 43200);
        turnedToNone(2, 86399);
    }

    void p12_aheadOfAPolarDay() {
        text(GAP, 5);
        turned(360, 64799, 360, 0, 11, 59, 719, 43199);
        turnedToNone(360, 64800);
        turned(360, 0, 359, 1, 6, 0, 360, 21600);
    }

    void p12_behindAPolarDay() {
        text(GAP, 5);
        turnedToNone(3, 21599);
        turned(3, 21600, 3, 0, 0, 0, 0, 0);
        turned(3, 64800, 3, 1, 0, 0, 0, 0);
    }

    void p12_aLightOfOneSecond() {
        text(SHORTEST, 3);
        turned(0, 0, 0, 0, 0, 0, 0, 0);
        turned(0, 1, 0, 1, 0, 0, 0, 0);
        turned(1, 86398, 1, 0, 0, 0, 0, 0);
    }

    void p12_aNightOfOneSecond() {
        text(LONGEST, 2);
        turned(0, 86399, 0, 1, 0, 0, 0, 0);
        turned(1, 0, 1, 0, 0, 0, 0, 0);
    }

    void p12_fewerSecondsThanHours() {
        text(SEVEN, 2);
        x.parts(1);
        int[] places = {0, 1, 3, 5, 6, 8, 10};
        for (int second = 0; second < 7; second++) {
            turned(0, second, 0, 0, places[second], 0, places[second], second);
        }
    }

    void p12_onePart() {
        text(PLAIN, 2);
        x.parts(1);
        turned(5, 25199, 5, 0, 0, 0, 0, 3599);
        turned(5, 25200, 5, 0, 1, 0, 1, 3600);
    }

    void p12_mostParts() {
        text(PLAIN, 2);
        x.parts(3600);
        turned(5, 21601, 5, 0, 0, 1, 1, 1);
        turned(5, 64799, 5, 0, 11, 3599, 43199, 43199);
    }

    void p12_theLargestProducts() {
        text(LONGEST, 2);
        x.parts(3600);
        turned(0, 86398, 0, 0, 11, 3599, 43199, 86398);
        text(SHORTEST, 3);
        due(x.turn(1, 1, 86397, 4), 43199);
        due(x.turn(1, 1, 86397, 5), 172796);
        due(x.turn(1, 1, 0, 4), 21600);
    }

    // ---- 13: back ----

    private int back(int[] a) {
        return x.back(a[0], a[1], a[2], a[3]);
    }

    void p13_whichTown() {
        text(PLAIN + "t0;t0;" + PLAIN, 6);
        bounds(this::back, with(0, 5, 0, 0), 0, 0, 21600, 3, 21600, NONE);
    }

    void p13_day() {
        text(PLAIN, 2);
        bounds(this::back, with(0, 5, 0, 0), 1, 0, 21600, 35999, 21600, NONE);
    }

    void p13_half() {
        text(PLAIN, 2);
        bounds(this::back, with(0, 5, 0, 0), 2, 0, 21600, 1, 64800, NONE);
    }

    void p13_place() {
        text(PLAIN, 2);
        bounds(this::back, with(0, 5, 0, 0), 3, 0, 21600, 719, 64740, NONE);
        bounds(this::back, with(0, 5, 1, 0), 3, 0, 64800, 719, 107940, NONE);
    }

    void p13_placeOfOnePart() {
        text(PLAIN, 2);
        x.parts(1);
        bounds(this::back, with(0, 5, 0, 0), 3, 0, 21600, 11, 61200, NONE);
    }

    void p13_placeOfMostParts() {
        text(PLAIN, 2);
        x.parts(3600);
        bounds(this::back, with(0, 5, 0, 0), 3, 0, 21600, 43199, 64799, NONE);
    }

    void p13_wrongGoesAheadOfNone() {
        text("t0;", 1);
        due(x.back(0, 0, 0, 0), -2);
        due(x.back(0, 0, 0, 720), NONE);
        due(x.back(0, 0, 2, 0), NONE);
    }

    void p13_atAndAboveMidnight() {
        text(PLAIN, 2);
        due(x.back(0, 5, 1, 359), 86340);
        due(x.back(0, 5, 1, 360), 86400);
    }

    void p13_fewerSecondsThanPlaces() {
        text(SEVEN, 2);
        x.parts(1);
        int[] seconds = {0, 1, 2, 2, 3, 3, 4, 5, 5, 6, 6, -2};
        for (int place = 0; place < 12; place++) {
            due(x.back(0, 0, 0, place), seconds[place]);
        }
    }

    void p13_oneSecond() {
        text(LONGEST, 2);
        due(x.back(0, 0, 1, 0), 86399);
        due(x.back(0, 0, 1, 1), -2);
        due(x.back(0, 0, 1, 719), -2);
    }

    void p13_theLargestProduct() {
        text(SHORTEST, 3);
        x.parts(3600);
        due(x.back(0, 0, 1, 43199), 172795);
    }

    void p13_aPolarDay() {
        text(GAP, 5);
        due(x.back(0, 1, 0, 0), -2);
        due(x.back(0, 2, 1, 0), -2);
    }

    void p13_noNightAheadOfAPolarDay() {
        text(GAP, 5);
        due(x.back(0, 0, 0, 0), 21600);
        due(x.back(0, 0, 1, 0), -2);
        due(x.back(0, 3, 1, 0), 64800);
    }

    void p13_noNightOfTheLastDay() {
        text(PLAIN, 2);
        due(x.back(0, 35999, 1, 0), -2);
        due(x.back(0, 35998, 1, 0), 64800);
    }

    // ---- 15: date ----

    private int date(int[] a) {
        return x.date(a[0], a[1], a[2], a[3]);
    }

    void p15_whichTown() {
        text(PLAIN + "t0;t0;" + PLAIN, 6);
        bounds(this::date, with(0, 5, 0, 1), 0, 0, 4, 3, 4, NONE);
    }

    void p15_day() {
        text(PLAIN, 2);
        bounds(this::date, with(0, 5, 21600, 1), 1, 0, 0, 35999, 35999, NONE);
    }

    void p15_second() {
        text(PLAIN, 2);
        bounds(this::date, with(0, 5, 0, 1), 2, 0, 4, 86399, 5, NONE);
    }

    void p15_reckoning() {
        text(PLAIN, 2);
        bounds(this::date, with(0, 5, 0, 0), 3, 0, 5, 3, 4, NONE);
    }

    void p15_byMidnight() {
        text(PLAIN, 2);
        due(x.date(0, 5, 0, 0), 5);
        due(x.date(0, 5, 86399, 0), 5);
    }

    void p15_byDawn() {
        text(PLAIN, 2);
        due(x.date(0, 5, 21599, 1), 4);
        due(x.date(0, 5, 21600, 1), 5);
        due(x.date(0, 5, 86399, 1), 5);
    }

    void p15_byDusk() {
        text(PLAIN, 2);
        due(x.date(0, 5, 0, 2), 5);
        due(x.date(0, 5, 64799, 2), 5);
        due(x.date(0, 5, 64800, 2), 6);
        due(x.date(0, 5, 64801, 2), 6);
        due(x.date(0, 5, 86399, 2), 6);
    }

    void p15_byNoon() {
        text(PLAIN, 2);
        due(x.date(0, 5, 0, 3), 4);
        due(x.date(0, 5, 43199, 3), 4);
        due(x.date(0, 5, 43200, 3), 5);
        due(x.date(0, 5, 43201, 3), 5);
        due(x.date(0, 5, 86399, 3), 5);
    }

    void p15_below0() {
        text(PLAIN, 2);
        due(x.date(0, 0, 0, 1), -1);
        due(x.date(0, 0, 0, 3), -1);
        due(x.date(0, 0, 0, 2), 0);
    }

    void p15_above35999() {
        text(PLAIN, 2);
        due(x.date(0, 35999, 64800, 2), 36000);
        due(x.date(0, 35999, 86399, 1), 35999);
    }

    void p15_aPolarDay() {
        text(GAP, 5);
        due(x.date(0, 1, 0, 1), -2);
        due(x.date(0, 1, 86399, 2), -2);
        due(x.date(0, 1, 0, 0), 1);
        due(x.date(0, 1, 0, 3), 0);
        due(x.date(0, 1, 43200, 3), 1);
    }

    void p15_besidesPolarDays() {
        text(GAP, 5);
        due(x.date(0, 0, 64800, 2), 1);
        due(x.date(0, 3, 0, 1), 2);
    }

    void p15_wrongGoesAheadOfPolar() {
        text("t0;", 1);
        due(x.date(0, 0, 0, 1), -2);
        due(x.date(0, 0, 0, 4), NONE);
        due(x.date(0, 0, 86400, 1), NONE);
    }

    // ---- 25: middle ----

    private int middle(int[] a) {
        return x.middle(a[0], a[1], a[2], a[3]);
    }

    void p25_whichTown() {
        text(PLAIN + "t0;t0;" + PLAIN, 6);
        bounds(this::middle, with(0, 5, 0, 0), 0, 0, 43200, 3, 43200, AWAY);
    }

    void p25_day() {
        text(PLAIN, 2);
        bounds(this::middle, with(0, 5, 0, 0), 1, 0, 43200, 35999, 43200, AWAY);
    }

    void p25_half() {
        text(PLAIN, 2);
        bounds(this::middle, with(0, 5, 0, 0), 2, 0, 43200, 1, 86400, AWAY);
    }

    void p25_what() {
        text("t0;p0,21600,64804;", 2);
        bounds(this::middle, with(0, 5, 0, 0), 3, 0, 43202, 1, 2, AWAY);
    }

    void p25_cut() {
        text(SEVEN, 2);
        due(x.middle(0, 0, 0, 0), 3);
        due(x.middle(0, 0, 0, 1), 3 - 43200);
        due(x.middle(0, 0, 1, 0), 7 + 43196);
        due(x.middle(0, 0, 1, 1), 7 + 43196 - 86400);
    }

    void p25_oneSecond() {
        text(LONGEST, 2);
        due(x.middle(0, 0, 1, 0), 86399);
        due(x.middle(0, 0, 1, 1), -1);
        due(x.middle(0, 0, 0, 0), 43199);
    }

    void p25_aPolarDay() {
        text(GAP, 5);
        due(x.middle(0, 1, 0, 0), AWAY);
        due(x.middle(0, 1, 1, 1), AWAY);
    }

    void p25_noNight() {
        text(GAP, 5);
        due(x.middle(0, 0, 1, 0), AWAY);
        due(x.middle(0, 0, 0, 0), 43200);
        due(x.middle(0, 35999, 1, 0), AWAY);
    }

    // ---- 26: apart ----

    private int apart(int[] a) {
        return x.apart(a[0], a[1], a[2], a[3], a[4]);
    }

    void p26_whichTown() {
        text(PLAIN + "t0;t0;" + PLAIN, 6);
        bounds(this::apart, with(0, 5, 0, 0, 1), 0, 0, 60, 3, 60, AWAY);
    }

    void p26_day() {
        text(PLAIN, 2);
        bounds(this::apart, with(0, 5, 0, 0, 1), 1, 0, 60, 35999, 60, AWAY);
    }

    void p26_half() {
        text("t0;p0,21600,50400;", 2);
        bounds(this::apart, with(0, 5, 0, 0, 1), 2, 0, 40, 1, 80, AWAY);
    }

    void p26_onePlace() {
        text(PLAIN, 2);
        bounds(this::apart, with(0, 5, 0, 0, 1), 3, 0, 60, 719, 60 - 719 * 60, AWAY);
    }

    void p26_theOtherPlace() {
        text(PLAIN, 2);
        bounds(this::apart, with(0, 5, 1, 1, 0), 4, 0, -60, 719, 718 * 60, AWAY);
    }

    void p26_theSamePlace() {
        text(PLAIN, 2);
        due(x.apart(0, 5, 0, 7, 7), 0);
    }

    void p26_midnight() {
        text(LONGEST, 2);
        x.parts(1);
        due(x.apart(0, 5, 0, 0, 1), 7200);
        due(x.apart(0, 5, 0, 1, 0), -7200);
        due(x.apart(0, 5, 0, 0, 0), 0);
    }

    void p26_oneIsNotThere() {
        text(SEVEN, 2);
        x.parts(1);
        due(x.apart(0, 0, 0, 0, 10), 6);
        due(x.apart(0, 0, 0, 2, 3), 0);
        due(x.apart(0, 0, 0, 0, 11), AWAY);
        due(x.apart(0, 0, 0, 11, 0), AWAY);
        due(x.apart(0, 0, 0, 11, 11), AWAY);
    }

    void p26_noSuchLightOrNight() {
        text(GAP, 5);
        due(x.apart(0, 1, 0, 0, 0), AWAY);
        due(x.apart(0, 0, 1, 0, 0), AWAY);
        due(x.apart(0, 35999, 1, 0, 0), AWAY);
        due(x.apart(0, 35998, 1, 0, 0), 0);
    }

    // ---- 33: exact ----

    private int exact(int[] a) {
        return x.exact(a[0], a[1], a[2], a[3]);
    }

    void p33_whichTown() {
        text(PLAIN + "t0;t0;" + PLAIN, 6);
        bounds(this::exact, with(0, 5, 0, 0), 0, 0, 3600, 3, 3600, NONE);
    }

    void p33_day() {
        text(PLAIN, 2);
        bounds(this::exact, with(0, 5, 0, 0), 1, 0, 3600, 35999, 3600, NONE);
    }

    void p33_half() {
        text("t0;p0,21600,50400;", 2);
        bounds(this::exact, with(0, 5, 0, 0), 2, 0, 2400, 1, 4800, NONE);
    }

    void p33_what() {
        text(SEVEN, 2);
        bounds(this::exact, with(0, 5, 0, 0), 3, 0, 7, 1, 12, NONE);
    }

    void p33_eachRest() {
        text("t0;p0,0,1;", 2);
        int[] upper = {0, 1, 1, 1, 1, 5, 1, 7, 2, 3, 5, 11, 1, 13, 7, 5, 4};
        int[] lower = {0, 12, 6, 4, 3, 12, 2, 12, 3, 4, 6, 12, 1, 12, 6, 4, 3};
        for (int length = 1; length <= 16; length++) {
            x.set(0, 0, 0, length);
            due(x.exact(0, 0, 0, 0), upper[length]);
            due(x.exact(0, 0, 0, 1), lower[length]);
        }
    }

    void p33_shortestAndLongestNight() {
        text(LONGEST, 2);
        due(x.exact(0, 0, 1, 0), 1);
        due(x.exact(0, 0, 1, 1), 12);
        text(SHORTEST, 3);
        due(x.exact(1, 0, 1, 0), 57599);
        due(x.exact(1, 0, 1, 1), 4);
    }

    void p33_thereIsNone() {
        text(GAP, 5);
        due(x.exact(0, 1, 0, 0), -2);
        due(x.exact(0, 0, 1, 1), -2);
        due(x.exact(0, 35999, 1, 0), -2);
        due(x.exact(0, 1, 0, 2), NONE);
    }

    // ---- 36: watch ----

    private int watch(int[] a) {
        return x.watch(a[0], a[1], a[2], a[3]);
    }

    void p36_whichTown() {
        text(PLAIN + "t0;t0;" + PLAIN, 6);
        bounds(this::watch, with(0, 5, 0, 0), 0, 0, 64800, 3, 64800, NONE);
    }

    void p36_day() {
        text(PLAIN, 2);
        bounds(this::watch, with(0, 5, 0, 0), 1, 0, 64800, 35999, -2, NONE);
    }

    void p36_whichWatch() {
        text(PLAIN, 2);
        bounds(this::watch, with(0, 5, 0, 0), 2, 0, 64800, 3, 97200, NONE);
        due(x.watch(0, 5, 1, 0), 75600);
        due(x.watch(0, 5, 2, 0), 86400);
    }

    void p36_what() {
        text(PLAIN, 2);
        bounds(this::watch, with(0, 5, 0, 0), 3, 0, 64800, 1, 10800, NONE);
    }

    void p36_aNightOfOneSecond() {
        text(LONGEST, 2);
        due(x.watch(0, 0, 0, 0), 86399);
        due(x.watch(0, 0, 0, 1), 1);
        due(x.watch(0, 0, 1, 0), 86400);
        due(x.watch(0, 0, 1, 1), 0);
        due(x.watch(0, 0, 3, 0), 86400);
        due(x.watch(0, 0, 3, 1), 0);
    }

    void p36_theLastOneEndsAtDawn() {
        text("t0;p0,10000,20001;", 2);
        // A NIGHT of 76399: HOUR 3 begins behind 19099.75, HOUR 6 behind 38199.5, HOUR 9 behind 57299.25.
        due(x.watch(0, 0, 0, 1), 19100);
        due(x.watch(0, 0, 1, 0), 20001 + 19100);
        due(x.watch(0, 0, 1, 1), 19100);
        due(x.watch(0, 0, 2, 1), 19100);
        due(x.watch(0, 0, 3, 0), 20001 + 57300);
        due(x.watch(0, 0, 3, 1), 19099);
    }

    void p36_partsDoNotMatter() {
        text("t0;p0,10000,20001;", 2);
        x.parts(3600);
        due(x.watch(0, 0, 3, 0), 20001 + 57300);
        x.parts(1);
        due(x.watch(0, 0, 3, 0), 20001 + 57300);
    }

    void p36_thereIsNoNight() {
        text(GAP, 5);
        due(x.watch(0, 0, 0, 0), -2);
        due(x.watch(0, 1, 3, 1), -2);
        due(x.watch(0, 35999, 0, 0), -2);
        due(x.watch(0, 0, 4, 0), NONE);
    }

    // ---- 42: until ----

    private int until(int[] a) {
        return x.until(a[0], a[1], a[2], a[3], a[4]);
    }

    void p42_whichTown() {
        text(PLAIN + "t0;t0;" + PLAIN, 6);
        bounds(this::until, with(0, 5, 0, 0, 0), 0, 0, 21600, 3, 21600, NONE);
    }

    void p42_day() {
        text(PLAIN, 2);
        bounds(this::until, with(0, 5, 0, 0, 0), 1, 0, 21600, 35999, 21600, NONE);
    }

    void p42_second() {
        text(PLAIN, 2);
        bounds(this::until, with(0, 5, 0, 0, 0), 2, 0, 21600, 86399, 21601, NONE);
    }

    void p42_half() {
        text(PLAIN, 2);
        bounds(this::until, with(0, 5, 0, 0, 0), 3, 0, 21600, 1, 64800, NONE);
    }

    void p42_place() {
        text(PLAIN, 2);
        bounds(this::until, with(0, 5, 0, 0, 0), 4, 0, 21600, 719, 64740, NONE);
        x.parts(1);
        bounds(this::until, with(0, 5, 0, 0, 0), 4, 0, 21600, 11, 61200, NONE);
    }

    void p42_then() {
        text(PLAIN, 2);
        due(x.until(0, 5, 21600, 0, 0), 0);
        due(x.until(0, 5, 21601, 0, 0), 86399);
        due(x.until(0, 5, 64800, 1, 0), 0);
        due(x.until(0, 5, 64801, 1, 0), 86399);
    }

    void p42_theNightOfTheDayAhead() {
        text(PLAIN, 2);
        due(x.until(0, 5, 0, 1, 360), 0);
        due(x.until(0, 5, 1, 1, 360), 86399);
        due(x.until(0, 5, 0, 1, 361), 60);
    }

    void p42_theNextTwoDays() {
        text(GAP, 5);
        due(x.until(0, 1, 0, 0, 0), 2 * 86400 + 21600);
        due(x.until(0, 1, 86399, 0, 0), 86400 + 1 + 21600);
        due(x.until(0, 2, 0, 0, 0), 86400 + 21600);
    }

    void p42_noneWithinTheNextTwoDays() {
        text(GAP, 5);
        due(x.until(0, 0, 21601, 0, 0), -2);
        due(x.until(0, 360, 21600, 0, 0), 0);
        text("t0;x0,0;p5,1,2;x9,0;", 4);
        due(x.until(1, 2, 0, 0, 0), -2);
        due(x.until(1, 3, 0, 0, 0), 2 * 86400 + 1);
    }

    void p42_theFirstDay() {
        text(PLAIN, 2);
        due(x.until(0, 0, 0, 1, 360), 86400);
        due(x.until(0, 0, 0, 0, 0), 21600);
    }

    void p42_theLastDay() {
        text(PLAIN, 2);
        due(x.until(0, 35999, 21601, 0, 0), -2);
        due(x.until(0, 35999, 0, 1, 360), 0);
        due(x.until(0, 35999, 1, 1, 360), -2);
        due(x.until(0, 35998, 21601, 0, 0), 86399);
        due(x.until(0, 35998, 64801, 1, 0), -2);
    }

    void p42_placesThatAreNotThere() {
        text("t0;p0,100,101;p1,100,1000;p2,100,101;", 4);
        due(x.until(0, 0, 0, 0, 719), 86400 + 999);
        text(SEVEN, 2);
        x.parts(1);
        due(x.until(1, 5, 0, 0, 11), -2);
    }

    void p42_wrongGoesAheadOfNone() {
        text("t0;", 1);
        due(x.until(0, 0, 0, 0, 0), -2);
        due(x.until(0, 0, 0, 0, 720), NONE);
        due(x.until(0, 0, 86400, 0, 0), NONE);
    }
}
