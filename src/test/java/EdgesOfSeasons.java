/** Boundaries of what is asked of many DAYS of a TOWN: promises 21 to 23, 27, 28, 31, 34, 35, 38. */
final class EdgesOfSeasons extends Cases {
    private static final String FOUR = PLAIN + "t0;t0;" + PLAIN;
    private static final String LONGEST = "t0;p0,0,86399;";
    private static final String SEVEN = "t0;p0,0,7;";
    /** POLAR on YDAY 1 alone. */
    private static final String GAP = "t0;p0,21600,64800;x1,1;p2,21600,64800;";
    /** A LIGHT of 43200 on YDAY 0, one of 12000 on all others. */
    private static final String ODD = "t0;p0,21600,64800;p1,0,12000;p359,0,12000;";
    /** A LIGHT of 100 on YDAY 0, a second more each DAY to YDAY 10, and slowly back. */
    private static final String RISING = "t0;p0,0,100;p10,0,110;";

    // ---- 21: jar ----

    private int jar(int[] a) {
        return x.jar(a[0], a[1], a[2], a[3], a[4]);
    }

    void p21_whichTown() {
        text(FOUR, 6);
        bounds(this::jar, with(0, 5, 6, 25200, 0), 0, 0, 1, 3, 1, -1000);
    }

    void p21_oneDay() {
        text(PLAIN, 2);
        bounds(this::jar, with(0, 5, 6, 25200, 0), 1, 0, 1, 35999, 1, -1000);
    }

    void p21_theOtherDay() {
        text(PLAIN, 2);
        bounds(this::jar, with(0, 5, 6, 25200, 0), 2, 0, 1, 35999, 1, -1000);
    }

    void p21_second() {
        text(LONGEST, 2);
        bounds(this::jar, with(0, 5, 6, 0, 0), 3, 0, 0, 86399, -100, -1000);
    }

    void p21_what() {
        text(ODD, 4);
        bounds(this::jar, with(0, 0, 1, 11999, 0), 4, 0, 3, 1, 3 - 11, -1000);
    }

    void p21_fromDawnToDusk() {
        text(PLAIN, 2);
        due(x.jar(0, 5, 6, 21599, 0), -100);
        due(x.jar(0, 5, 6, 21600, 0), 0);
        due(x.jar(0, 5, 6, 64799, 0), 11);
        due(x.jar(0, 5, 6, 64800, 0), -100);
    }

    void p21_fromMarkToMark() {
        text(PLAIN, 2);
        due(x.jar(0, 5, 6, 25199, 0), 0);
        due(x.jar(0, 5, 6, 25200, 0), 1);
    }

    void p21_twelveAtMost() {
        text(ODD, 4);
        due(x.jar(0, 1, 0, 21600 + 11999, 0), 11);
        due(x.jar(0, 1, 0, 21600 + 12000, 0), 12);
        due(x.jar(0, 1, 0, 21600 + 13000, 0), 12);
        due(x.jar(0, 1, 0, 64799, 0), 12);
    }

    void p21_slip() {
        text(ODD, 4);
        due(x.jar(0, 1, 0, 21600, 1), 0);
        due(x.jar(0, 1, 0, 21600 + 12000, 1), 12 - 3);
        due(x.jar(0, 1, 0, 64799, 1), 12 - 11);
        due(x.jar(0, 0, 0, 64799, 1), 0);
    }

    void p21_slipDoesNotHangOnParts() {
        text(ODD, 4);
        x.parts(3600);
        due(x.jar(0, 1, 0, 21600 + 12000, 1), 12 - 3);
        x.parts(1);
        due(x.jar(0, 1, 0, 21600 + 12000, 1), 12 - 3);
    }

    void p21_polarDays() {
        text(GAP, 4);
        due(x.jar(0, 1, 0, 30000, 0), -100);
        due(x.jar(0, 0, 1, 30000, 1), -100);
        due(x.jar(0, 1, 1, 30000, 0), -100);
    }

    void p21_wrongGoesAheadOfPolar() {
        text(GAP, 4);
        due(x.jar(0, 1, 0, 30000, 2), -1000);
        due(x.jar(0, 1, 0, 86400, 0), -1000);
    }

    void p21_oneSecond() {
        text("t0;p0,0,1;p1,0,86399;", 3);
        due(x.jar(0, 0, 1, 0, 0), 0);
        due(x.jar(0, 0, 1, 1, 0), 12);
        due(x.jar(0, 0, 1, 86398, 0), 12);
        due(x.jar(0, 1, 0, 0, 0), 0);
    }

    // ---- 22: work ----

    private int work(int[] a) {
        return x.work(a[0], a[1], a[2], a[3], a[4]);
    }

    void p22_whichTown() {
        text(FOUR, 6);
        bounds(this::work, with(0, 5, 5, 0, 12), 0, 0, 43200, 3, 43200, NONE);
    }

    void p22_from() {
        text(PLAIN, 2);
        bounds(this::work, with(0, 0, 359, 0, 12), 1, 0, 360 * 43200, 359, 43200, NONE);
        bounds(this::work, with(0, 0, 35999, 0, 12), 1, 35640, 360 * 43200, 35999, 43200, NONE);
    }

    void p22_to() {
        text(PLAIN, 2);
        bounds(this::work, with(0, 0, 0, 0, 12), 2, 0, 43200, 359, 360 * 43200, NONE);
        bounds(this::work, with(0, 35990, 0, 0, 12), 2, 35990, 43200, 35999, 10 * 43200, NONE);
    }

    void p22_daysThatAreNotThere() {
        text(PLAIN, 2);
        due(x.work(0, -1, 0, 0, 12), NONE);
        due(x.work(0, -1, -1, 0, 12), NONE);
        due(x.work(0, 35999, 36000, 0, 12), NONE);
        due(x.work(0, 36000, 36000, 0, 12), NONE);
    }

    void p22_neverBackwards() {
        text(PLAIN, 2);
        due(x.work(0, 6, 5, 0, 12), NONE);
        due(x.work(0, 35999, 0, 0, 12), NONE);
        due(x.work(0, 5, MIN, 0, 12), NONE);
    }

    void p22_atMost359Further() {
        text(PLAIN, 2);
        due(x.work(0, 5, 364, 0, 12), 360 * 43200);
        due(x.work(0, 5, 365, 0, 12), NONE);
    }

    void p22_fromHour() {
        text(PLAIN, 2);
        bounds(this::work, with(0, 5, 5, 0, 12), 3, 0, 43200, 11, 3600, NONE);
        bounds(this::work, with(0, 5, 5, 0, 5), 3, 0, 5 * 3600, 4, 3600, NONE);
        due(x.work(0, 5, 5, 5, 5), NONE);
        due(x.work(0, 5, 5, 12, 12), NONE);
    }

    void p22_toHour() {
        text(PLAIN, 2);
        bounds(this::work, with(0, 5, 5, 0, 12), 4, 1, 3600, 12, 43200, NONE);
        bounds(this::work, with(0, 5, 5, 7, 12), 4, 8, 3600, 12, 5 * 3600, NONE);
    }

    void p22_hoursThatAreNotThere() {
        text(SEVEN, 2);
        // HOURS begin at 0, 1, 2, 2, 3, 3, 4, 5, 5, 6, 6; HOUR 11 is not there.
        due(x.work(0, 5, 5, 0, 1), 1);
        due(x.work(0, 5, 5, 2, 3), 0);
        due(x.work(0, 5, 5, 9, 10), 0);
        due(x.work(0, 5, 5, 10, 11), 1);
        due(x.work(0, 5, 5, 11, 12), 0);
        due(x.work(0, 5, 5, 0, 11), 7);
        due(x.work(0, 5, 5, 0, 12), 7);
    }

    void p22_wholeSeconds() {
        text("t0;p0,100,125;", 2);
        // HOUR 1 begins behind 2 and a twelfth, HOUR 11 behind 22 and eleven twelfths.
        due(x.work(0, 5, 5, 0, 1), 3);
        due(x.work(0, 5, 5, 1, 2), 2);
        due(x.work(0, 5, 5, 11, 12), 2);
        due(x.work(0, 5, 6, 0, 1), 6);
    }

    void p22_polarDays() {
        text(GAP, 4);
        due(x.work(0, 0, 1, 0, 12), 43200);
        due(x.work(0, 1, 1, 0, 12), 0);
        due(x.work(0, 0, 359, 0, 12), 359 * 43200);
        text("t0;", 1);
        due(x.work(1, 0, 359, 0, 12), 0);
    }

    void p22_theMostThereCanBe() {
        text(LONGEST, 2);
        due(x.work(0, 35640, 35999, 0, 12), 360 * 86399);
    }

    // ---- 23: season ----

    private int season(int[] a) {
        return x.season(a[0], a[1]);
    }

    void p23_whichTown() {
        text(FOUR, 6);
        bounds(this::season, with(0, 0), 0, 0, 0, 3, 0, NONE);
    }

    void p23_what() {
        text("t0;x0,0;p9,1,2;x11,1;", 4);
        bounds(this::season, with(0, 0), 1, 0, 9, 3, 359, NONE);
    }

    void p23_firstAndLastYday() {
        text("t0;p0,0,100;p359,0,86399;", 3);
        due(x.season(0, 0), 359);
        due(x.season(0, 1), 0);
        text("t0;p0,0,86399;p359,0,100;", 3);
        due(x.season(1, 0), 0);
        due(x.season(1, 1), 359);
    }

    void p23_ofLikeOnesTheFirst() {
        text(PLAIN, 2);
        due(x.season(0, 0), 0);
        due(x.season(0, 1), 0);
        due(x.season(0, 2), 0);
        text("t0;p5,0,200;p6,0,200;p7,0,100;p8,0,100;", 5);
        due(x.season(1, 0), 5);
        due(x.season(1, 1), 7);
    }

    void p23_leastApart() {
        text("t0;p0,0,43100;p100,0,43300;", 3);
        due(x.season(0, 2), 50);
        text("t0;x0,0;p10,0,43210;p11,0,43190;x12,0;", 5);
        due(x.season(1, 2), 10);
        text("t0;x0,0;p10,0,43190;p11,0,43210;x12,0;", 5);
        due(x.season(2, 2), 10);
        text("t0;x0,0;p10,0,43190;p11,0,43209;x12,0;", 5);
        due(x.season(3, 2), 11);
    }

    void p23_allArePolar() {
        text("t0;t0;x5,1;", 3);
        for (int what = 0; what <= 2; what++) {
            due(x.season(0, what), -2);
            due(x.season(1, what), -2);
        }
        due(x.season(0, 3), 360);
        due(x.season(1, 3), 360);
        due(x.season(0, 4), NONE);
    }

    void p23_allButOneArePolar() {
        text("t0;x0,0;p359,0,1;", 3);
        for (int what = 0; what <= 2; what++) {
            due(x.season(0, what), 359);
        }
        due(x.season(0, 3), 359);
    }

    void p23_noneIsPolar() {
        text(PLAIN, 2);
        due(x.season(0, 3), 0);
    }

    // ---- 27: best ----

    private int best(int[] a) {
        return x.best(a[0], a[1], a[2], a[3], a[4]);
    }

    void p27_whichTown() {
        text(FOUR, 6);
        bounds(this::best, with(0, 5, 1, 0, 0), 0, 0, 5, 3, 5, NONE);
    }

    void p27_day() {
        text(PLAIN, 2);
        bounds(this::best, with(0, 5, 9, 0, 0), 1, 0, 0, 35999, 35999, NONE);
    }

    void p27_howMany() {
        text(ODD, 4);
        bounds(this::best, with(0, 1, 9, 0, 0), 2, 1, 1, 360, 360, NONE);
    }

    void p27_hour() {
        text(ODD, 4);
        bounds(this::best, with(0, 5, 9, 0, 0), 3, 0, 5, 11, 5, NONE);
    }

    void p27_what() {
        text("t0;p0,100,200;p1,50,60;p2,60,61;p3,300,310;p4,70,71;", 6);
        bounds(this::best, with(0, 0, 5, 0, 0), 4, 0, 0, 2, 3, NONE);
        due(x.best(0, 0, 5, 0, 1), 1);
    }

    void p27_wholeSeconds() {
        text("t0;p0,0,23;p1,0,24;p2,0,25;p3,0,1;", 5);
        // HOUR 0 is 2, 2, 3 seconds long, HOUR 11 1, 2, 2.
        due(x.best(0, 0, 2, 0, 0), 0);
        due(x.best(0, 0, 3, 0, 0), 2);
        due(x.best(0, 0, 3, 11, 0), 1);
    }

    void p27_hoursThatAreNotThere() {
        text("t0;p0,0,7;p1,0,8;p2,0,12;", 4);
        // HOUR 11 of 7, 8 seconds is empty, of 12 it is one second.
        due(x.best(0, 0, 2, 11, 0), 0);
        due(x.best(0, 0, 3, 11, 0), 2);
        due(x.best(0, 0, 2, 11, 1), 0);
        due(x.best(0, 0, 2, 11, 2), 1);
    }

    void p27_asItBeginsNotAsItEnds() {
        text("t0;p0,100,1300;p1,101,113;", 3);
        // HOUR 0 is from 100 to 200, from 101 to 102.
        due(x.best(0, 0, 2, 0, 1), 0);
        due(x.best(0, 0, 2, 0, 2), 1);
    }

    void p27_ofLikeOnesTheFirst() {
        text(PLAIN, 2);
        for (int what = 0; what <= 2; what++) {
            due(x.best(0, 7, 360, 5, what), 7);
        }
    }

    void p27_polarDays() {
        text(GAP, 4);
        due(x.best(0, 1, 1, 0, 0), -2);
        due(x.best(0, 1, 2, 0, 0), 2);
        due(x.best(0, 1, 2, 0, 1), 2);
        text("t0;", 1);
        due(x.best(1, 0, 360, 0, 0), -2);
        due(x.best(1, 0, 360, 12, 0), NONE);
    }

    void p27_above35999() {
        text("t0;p0,0,80000;p1,0,100;p359,0,200;", 4);
        due(x.best(0, 35999, 2, 0, 0), 35999);
        due(x.best(0, 35639, 2, 0, 0), 35640);
    }

    void p27_theLastDayOfSoMany() {
        text(ODD, 4);
        due(x.best(0, 1, 359, 0, 0), 1);
        due(x.best(0, 1, 360, 0, 0), 360);
    }

    // ---- 28: candle ----

    private int candle(int[] a) {
        return x.candle(a[0], a[1], a[2]);
    }

    void p28_whichTown() {
        text(FOUR, 6);
        bounds(this::candle, with(0, 5, 100), 0, 0, 111, 3, 111, NONE);
    }

    void p28_oneDay() {
        text(PLAIN, 2);
        bounds(this::candle, with(0, 5, 100), 1, 0, 111, 35999, 111, NONE);
    }

    void p28_from() {
        text(PLAIN, 2);
        bounds(this::candle, with(0, 5, 100), 2, 0, 11, 35999, -2, NONE);
    }

    void p28_noMoreThanThat() {
        text("t0;p0,0,43199;p1,0,43200;p2,0,43201;p3,0,43200;p359,0,43200;", 6);
        // 3600 a DAY: on the twelfth 3599, 3600, 3601 are left.
        due(x.candle(0, 0, 100), 111);
        due(x.candle(0, 1, 100), 111);
        due(x.candle(0, 2, 100), 112);
    }

    void p28_theFirstDay() {
        text("t0;p0,0,100;p1,0,1200;p2,0,1211;p3,0,1188;", 5);
        due(x.candle(0, 0, 1), 1);
        due(x.candle(0, 0, 2), 2);
        due(x.candle(0, 0, 3), 4);
    }

    void p28_atMost359Further() {
        text("t0;p0,0,86399;p1,0,2651;p359,0,2651;", 4);
        // 220 each DAY: as DAY 360 comes 86399 - 359 * 220 = 7419 are left, a twelfth of it is 7199.
        due(x.candle(0, 0, 1), -2);
        text("t0;p0,0,86399;p1,0,2652;p359,0,2652;", 4);
        // 221 each DAY: 7060 are left.
        due(x.candle(1, 0, 1), 360);
    }

    void p28_above35999() {
        text(PLAIN, 2);
        due(x.candle(0, 5, 35988), 35999);
        due(x.candle(0, 5, 35989), -2);
    }

    void p28_aTwelfthOfNothing() {
        text(SEVEN, 2);
        due(x.candle(0, 5, 6), -2);
        x.set(0, 0, 0, 12);
        due(x.candle(0, 5, 6), 17);
        x.set(0, 0, 0, 11);
        due(x.candle(0, 5, 6), -2);
    }

    void p28_polarDaysBurnNothing() {
        text(GAP, 4);
        due(x.candle(0, 0, 0), 12);
        due(x.candle(0, 0, 1), 13);
        due(x.candle(0, 0, 2), 13);
    }

    void p28_notOnAPolarDay() {
        text("t0;p0,0,100;x1,1;p2,0,1200;p3,0,86399;", 5);
        due(x.candle(0, 0, 1), 2);
    }

    void p28_dayOneIsPolar() {
        text(GAP, 4);
        due(x.candle(0, 1, 5), -2);
        due(x.candle(0, 1, 36000), NONE);
    }

    // ---- 31: spare ----

    void p31_whichTown() {
        text("t0;x0,0;x1,0;t0;t0;t0;x0,0;x1,0;x2,0;", 9);
        bounds(a -> x.spare(a[0]), with(0), 0, 0, 2, 3, 3, NONE);
    }

    private void spare(String points, int items, int want) {
        text("t0;" + points, items);
        due(x.spare(x.is(0) - 1), want);
    }

    void p31_noPoints() {
        spare("", 1, 0);
    }

    void p31_onePoint() {
        spare("p5,1,2;", 2, 0);
        spare("x5,1;", 2, 0);
    }

    void p31_twoLikeOnes() {
        spare("p5,1,2;p300,1,2;", 3, 2);
        spare("x5,1;x300,1;", 3, 2);
    }

    void p31_twoThatDiffer() {
        spare("p5,1,3;p300,2,3;", 3, 0);
        spare("p5,1,2;p300,1,3;", 3, 0);
        spare("x5,1;x300,0;", 3, 0);
        spare("x5,1;p300,1,3;", 3, 0);
    }

    void p31_twelveLikeOnes() {
        spare(repeated12("x", ",1;"), 13, 12);
        spare(repeated12("p", ",1,2;"), 13, 12);
    }

    void p31_betweenTwo() {
        spare("p0,0,100;p10,10,110;p20,20,120;", 4, 1);
        spare("p0,0,100;p10,10,111;p20,20,120;", 4, 0);
        spare("p0,0,100;p10,9,110;p20,20,120;", 4, 0);
    }

    void p31_roundTheYear() {
        spare("p0,10,110;p10,20,120;p350,0,100;", 4, 1);
        spare("p10,20,120;p340,0,100;p350,5,105;", 4, 0);
        spare("p9,20,120;p339,0,100;p359,10,110;", 4, 0);
        spare("p10,20,120;p350,0,100;p359,9,109;", 4, 1);
    }

    void p31_cutDownwards() {
        spare("p0,10,100;p1,9,99;p2,9,99;", 4, 2);
        spare("p0,10,100;p1,10,100;p2,9,99;", 4, 0);
    }

    void p31_polarOnes() {
        spare("x0,1;x10,1;x20,1;", 4, 3);
        spare("x0,0;x100,1;x200,0;", 4, 1);
        spare("p0,1,2;x10,1;p20,1,2;", 4, 0);
        spare("x0,1;p10,1,2;x20,0;", 4, 0);
    }

    void p31_theTownStaysAsItIs() {
        text("t0;p5,1,2;p300,1,2;", 3);
        refused(() -> x.spare(0), 2);
        refused(() -> x.spare(1), NONE);
    }

    private static String repeated12(String letter, String rest) {
        StringBuilder all = new StringBuilder();
        for (int i = 0; i < 12; i++) {
            all.append(letter).append(29 * i).append(rest);
        }
        return all.toString();
    }

    // ---- 34: alike ----

    private int alike(int[] a) {
        return x.alike(a[0], a[1], a[2]);
    }

    void p34_whichTown() {
        text(FOUR, 6);
        bounds(this::alike, with(0, 5, 9), 0, 0, 9, 3, 9, NONE);
    }

    void p34_oneDay() {
        text(PLAIN, 2);
        bounds(this::alike, with(0, 5, 9), 1, 0, 9, 35999, 9, NONE);
    }

    void p34_from() {
        text(PLAIN, 2);
        bounds(this::alike, with(0, 5, 9), 2, 0, 0, 35999, 35999, NONE);
    }

    void p34_itself() {
        text(ODD, 4);
        due(x.alike(0, 0, 0), 0);
        due(x.alike(0, 0, 360), 360);
    }

    void p34_atMost359Further() {
        text(ODD, 4);
        due(x.alike(0, 0, 1), 360);
        due(x.alike(0, 0, 35640), 35640);
        due(x.alike(0, 0, 35280), 35280);
    }

    void p34_above35999() {
        text(ODD, 4);
        due(x.alike(0, 0, 35641), -2);
        due(x.alike(0, 0, 35999), -2);
    }

    void p34_asLongAtAnotherTime() {
        text("t0;p0,0,100;p1,0,101;p2,0,99;p3,500,600;p4,0,99;p359,0,99;", 7);
        due(x.alike(0, 0, 1), 3);
        due(x.alike(0, 0, 4), 360);
        due(x.alike(0, 3, 3), 3);
    }

    void p34_polarDays() {
        text("t0;p0,0,100;x1,1;p2,0,100;x3,1;", 5);
        due(x.alike(0, 0, 1), 2);
        due(x.alike(0, 1, 3), -2);
        due(x.alike(0, 1, 36000), NONE);
    }

    // ---- 35: growth ----

    private int growth(int[] a) {
        return x.growth(a[0], a[1], a[2], a[3]);
    }

    void p35_whichTown() {
        text(RISING + "t0;t0;" + RISING, 8);
        bounds(this::growth, with(0, 5, 1, 0), 0, 0, 1, 3, 1, AWAY);
    }

    void p35_day() {
        text("t0;p0,0,100;p10,0,110;p358,0,120;p359,0,127;", 5);
        bounds(this::growth, with(0, 5, 2, 0), 1, 0, 1, 35999, 7, AWAY);
    }

    void p35_howMany() {
        text(RISING, 3);
        bounds(this::growth, with(0, 1, 1, 0), 2, 1, 1, 360, 0, AWAY);
    }

    void p35_what() {
        text(RISING, 3);
        bounds(this::growth, with(0, 4, 3, 0), 3, 0, 3, 2, 4, AWAY);
        due(x.growth(0, 4, 3, 1), 1);
    }

    void p35_dayNought() {
        text(RISING, 3);
        due(x.growth(0, 0, 1, 0), 0);
        due(x.growth(0, 0, 1, 1), AWAY);
        due(x.growth(0, 0, 1, 2), -2);
        due(x.growth(0, 0, 2, 0), 1);
        due(x.growth(0, 0, 2, 2), 1);
    }

    void p35_theLastDays() {
        text("t0;p0,0,100;p10,0,110;p358,0,120;p359,0,127;", 5);
        due(x.growth(0, 35999, 360, 0), 7);
        due(x.growth(0, 35999, 360, 1), 7);
        due(x.growth(0, 35999, 360, 2), 35999);
    }

    void p35_theYearTurns() {
        text(RISING, 3);
        due(x.growth(0, 361, 1, 0), 1);
        due(x.growth(0, 361, 1, 2), 361);
    }

    void p35_lessThanNothing() {
        text(RISING, 3);
        due(x.growth(0, 11, 1, 0), -1);
        due(x.growth(0, 11, 1, 1), -1);
        due(x.growth(0, 11, 1, 2), 11);
    }

    void p35_neitherMoreNorLess() {
        text(PLAIN, 2);
        due(x.growth(0, 5, 3, 0), 0);
        due(x.growth(0, 5, 3, 1), 0);
        due(x.growth(0, 5, 3, 2), 5);
    }

    void p35_theMostOfLikeOnesTheFirst() {
        text("t0;p0,0,100;p1,0,101;p2,0,104;p3,0,107;p4,0,100;", 6);
        due(x.growth(0, 1, 4, 0), 0);
        due(x.growth(0, 1, 4, 1), 3);
        due(x.growth(0, 1, 4, 2), 2);
    }

    void p35_farthestFall() {
        text("t0;p0,0,86399;p1,0,1;", 3);
        due(x.growth(0, 1, 1, 1), -86398);
        due(x.growth(0, 1, 1, 2), 1);
    }

    void p35_polarDays() {
        text("t0;p0,0,100;x1,1;p2,0,150;p3,0,153;", 5);
        due(x.growth(0, 1, 2, 0), 0);
        due(x.growth(0, 1, 2, 1), AWAY);
        due(x.growth(0, 1, 2, 2), -2);
        due(x.growth(0, 1, 3, 0), 3);
        due(x.growth(0, 1, 3, 1), 3);
        due(x.growth(0, 1, 3, 2), 3);
        text("t0;", 1);
        due(x.growth(1, 1, 360, 0), 0);
        due(x.growth(1, 1, 360, 1), AWAY);
        due(x.growth(1, 1, 360, 2), -2);
    }

    // ---- 38: spread ----

    private int spread(int[] a) {
        return x.spread(a[0], a[1]);
    }

    void p38_day() {
        text("t0;p0,0,100;p359,0,200;t0;p0,0,110;p359,0,150;", 6);
        bounds(this::spread, with(5, 2), 0, 0, 10, 35999, 50, NONE);
    }

    void p38_what() {
        text("t0;p0,0,100;t0;p0,0,110;", 4);
        bounds(this::spread, with(5, 0), 1, 0, 1, 2, 10, NONE);
        due(x.spread(5, 1), 0);
    }

    private void spread(int longest, int shortest, int apart) {
        due(x.spread(5, 0), longest);
        due(x.spread(5, 1), shortest);
        due(x.spread(5, 2), apart);
    }

    void p38_noTowns() {
        spread(-2, -2, -2);
        due(x.spread(5, 3), NONE);
        due(x.spread(36000, 0), NONE);
    }

    void p38_oneTown() {
        text(PLAIN, 2);
        spread(0, 0, 0);
    }

    void p38_allArePolar() {
        text("t0;t0;x0,1;", 3);
        spread(-2, -2, -2);
    }

    void p38_allButTheLastArePolar() {
        text("t0;t0;x0,1;t0;" + PLAIN, 6);
        spread(3, 3, 0);
    }

    void p38_ofLikeOnesTheFirst() {
        text("t0;p0,0,100;t0;p0,0,110;t0;p0,0,110;t0;p0,0,100;", 8);
        spread(1, 0, 10);
    }

    void p38_farthestApart() {
        text("t0;p0,0,86399;t0;p0,0,1;", 4);
        spread(0, 1, 86398);
    }
}
