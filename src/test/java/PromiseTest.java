/** Each promise of the document: ordinary inputs, the edges that it names, wrong inputs. Answers worked out by hand. */
public final class PromiseTest {
    private static final int NONE = -1;
    private static final int AWAY = -1000000;
    /** Winter 7 to 17, summer 5 to 19 o'clock; an hour ahead, always 6 to 18; polar round the year; no POINTS. */
    private static final String WORLD =
        "t0;p0,25200,61200;p180,18000,68400;t3600;p0,21600,64800;t-7200;x0,0;p100,30000,50000;x200,1;t43200;";

    private static UnequalHours world() {
        UnequalHours x = new UnequalHours();
        Checks.due("text() of the world", Checks.text(x, WORLD), 10);
        return x;
    }

    private static UnequalHours world(String bells) {
        UnequalHours x = world();
        Checks.bells(x, bells);
        Checks.due("fault() of " + bells, x.fault(), NONE);
        return x;
    }

    private static void due(String call, long got, long want) {
        Checks.due(call, got, want);
    }

    public static void main(String[] args) {
        newObject();
        tape();
        texts();
        textFaults();
        bellTexts();
        actTexts();
        tables();
        turnsAndBacks();
        overAndDate();
        rings();
        conds();
        jarsAndWork();
        seasons();
        meetings();
        middlesAndApart();
        bestCandleAlikeGrowth();
        sharedAndSame();
        runners();
        watchesAndExact();
        spreads();
        untilAndLag();
        changes();
        deeds();
        keptStates();
        writing();
        staleTexts();
        edgesOfDays();
        edgesOfTowns();
        Checks.close("PromiseTest");
    }

    private static void newObject() {
        UnequalHours x = new UnequalHours();
        due("NONE", UnequalHours.NONE, -1);
        due("is(0)", x.is(0), 0);
        due("is(1)", x.is(1), 60);
        for (int what = 2; what <= 6; what++) {
            due("is(" + what + ")", x.is(what), 0);
        }
        due("is(7)", x.is(7), NONE);
        due("is(-1)", x.is(-1), NONE);
        due("fault()", x.fault(), NONE);
        due("ended()", x.ended(), NONE);
        due("octet(0)", x.octet(0), NONE);
        due("spread(0, 0)", x.spread(0, 0), -2);
    }

    private static void tape() {
        UnequalHours x = new UnequalHours();
        for (int i = 1; i <= 25; i++) {
            due("feed " + i, x.feed(-1, 0, 0, 0, 0), 20 * i);
        }
        due("a 501st byte", x.feed(1, 2, 3, 4, 5), NONE);
        due("is(4)", x.is(4), 500);
        due("end(501)", x.end(501), NONE);
        due("end(-1)", x.end(-1), NONE);
        due("is(4) still", x.is(4), 500);
        due("end(481)", x.end(481), 481);
        due("feed at 481", x.feed(1, 2, 3, 4, 5), NONE);
        due("end(480)", x.end(480), 480);
        due("feed at 480", x.feed(1, 2, 3, 4, 5), 500);
        due("text() of byte 255", x.text(), NONE);
        due("fault()", x.fault(), 0);
        due("is(4) after text()", x.is(4), 0);
        // Bytes come from the highest of the first number on.
        x.feed(('t' << 24) | ('1' << 16) | ('2' << 8) | '3', ('4' << 24) | ('5' << 16) | (';' << 8) | 't', '7' << 24, 0, 0);
        x.end(7);
        due("text()", x.text(), 1);
        due("town(0, 0)", x.town(0, 0), 12345);
    }

    private static void texts() {
        UnequalHours x = world();
        due("fault()", x.fault(), NONE);
        due("is(0)", x.is(0), 4);
        due("is(3)", x.is(3), 1);
        due("is(4)", x.is(4), 0);
        due("is(5)", x.is(5), 6);
        due("is(6)", x.is(6), 2);
        due("town(2, 0)", x.town(2, 0), -7200);
        due("town(2, 1)", x.town(2, 1), 3);
        due("town(2, 10)", x.town(2, 10), 0);
        due("town(2, 11)", x.town(2, 11), -1);
        due("town(2, 12)", x.town(2, 12), -1);
        due("town(2, 13)", x.town(2, 13), 0);
        due("town(2, 14)", x.town(2, 14), 100);
        due("town(2, 15)", x.town(2, 15), 30000);
        due("town(2, 16)", x.town(2, 16), 50000);
        due("town(2, 17)", x.town(2, 17), -1);
        due("town(2, 21)", x.town(2, 21), 1);
        due("town(2, 22)", x.town(2, 22), AWAY);
        due("town(3, 1)", x.town(3, 1), 0);
        due("town(3, 10)", x.town(3, 10), AWAY);
        due("town(0, 2)", x.town(0, 2), AWAY);
        due("town(0, 9)", x.town(0, 9), AWAY);
        due("town(0, -1)", x.town(0, -1), AWAY);
        due("town(4, 0)", x.town(4, 0), AWAY);
        due("town(-1, 0)", x.town(-1, 0), AWAY);
        due("an empty text", Checks.text(x, ""), 0);
        due("it is a deed", x.is(3), 2);
        due("a POINT more of the latest town", Checks.text(x, "p359,0,86399;"), 1);
        due("town(3, 1)", x.town(3, 1), 1);
        due("town(3, 12)", x.town(3, 12), 86399);
        due("all or nothing", Checks.text(x, "t1;"), NONE);
        UnequalHours y = new UnequalHours();
        due("one bad ITEM", Checks.text(y, "t1;t2;p0,5,5;"), NONE);
        due("nothing came", y.is(0), 0);
        due("no deed", y.is(3), 0);
    }

    private static void textFault(String text, int place) {
        UnequalHours x = new UnequalHours();
        due("text() of " + text, Checks.text(x, text), NONE);
        due("fault() of " + text, x.fault(), place);
        due("towns of " + text, x.is(0), 0);
    }

    private static void textFaults() {
        textFault("p0,1,2;", 0);
        textFault("x0,1;", 0);
        textFault("T0;", 0);
        textFault("t", 1);
        textFault("t-", 2);
        textFault("t--1;", 2);
        textFault("t+1;", 1);
        textFault("t 1;", 1);
        textFault("t1", 2);
        textFault("t1,", 2);
        textFault("t43201;", 1);
        textFault("t-43201;", 1);
        textFault("t99999", 1);
        textFault("t99999,", 1);
        textFault("t999999;", 6);
        textFault("t-999999;", 7);
        textFault("t000001;", 6);
        textFault("t0;p360,1,2;", 4);
        textFault("t0;p-1,1,2;", 4);
        textFault("t0;p5,1,2;p5,1,2;", 11);
        textFault("t0;p5,1,2;x4,1;", 11);
        textFault("t0;p0,86400,2;", 6);
        textFault("t0;p0,-1,2;", 6);
        textFault("t0;p0,7,7;", 8);
        textFault("t0;p0,7,86400;", 8);
        textFault("t0;p0,86399,86399;", 12);
        textFault("t0;p0,1;", 7);
        textFault("t0;p0;", 5);
        textFault("t0;x0,2;", 6);
        textFault("t0;x0,-1;", 6);
        textFault("t0;x0,1,2;", 7);
        textFault("t0;;", 3);
        textFault("t1;t2;t3;t4;t5;", 12);
        textFault("t1;t2;t3;t4;t", 12);
        StringBuilder points = new StringBuilder("t-0;");
        for (int i = 0; i < 12; i++) {
            points.append("x").append(10 + i).append(",1;");
        }
        UnequalHours x = new UnequalHours();
        due("twelve POINTS", Checks.text(x, points.toString()), 13);
        due("-0", x.town(0, 0), 0);
        textFault(points + "p30,1,2;", 4 + 12 * 6);
    }

    private static void bellFault(String text, int place) {
        UnequalHours x = world("d1*2;");
        due("bells() of " + text, Checks.bells(x, text), NONE);
        due("fault() of " + text, x.fault(), place);
        due("BELLS stay by " + text, x.is(2), 1);
        due("their STROKES by " + text, x.bell(0, 3), 2);
        due("the tape by " + text, x.is(4), 0);
    }

    private static void bellTexts() {
        UnequalHours x = world();
        due("bells()", Checks.bells(x, "d0*1;n11.3599*24?w<1&y=2|l>t*z+1;"), 2);
        due("bell(0, 0)", x.bell(0, 0), 0);
        due("bell(0, 2)", x.bell(0, 2), 0);
        due("bell(0, 4)", x.bell(0, 4), 0);
        due("bell(1, 0)", x.bell(1, 0), 1);
        due("bell(1, 1)", x.bell(1, 1), 11);
        due("bell(1, 2)", x.bell(1, 2), 3599);
        due("bell(1, 3)", x.bell(1, 3), 24);
        due("bell(1, 4)", x.bell(1, 4), 8);
        due("bell(1, 5)", x.bell(1, 5), NONE);
        due("bell(1, -1)", x.bell(1, -1), NONE);
        due("bell(2, 0)", x.bell(2, 0), NONE);
        due("bell(-1, 0)", x.bell(-1, 0), NONE);
        due("no BELLS", Checks.bells(x, ""), 0);
        due("is(2)", x.is(2), 0);
        due("is(3)", x.is(3), 3);
        bellFault("d", 1);
        bellFault("e1*1;", 0);
        bellFault("d12*1;", 1);
        bellFault("d-1*1;", 1);
        bellFault("d1;", 2);
        bellFault("d1.*1;", 3);
        bellFault("d1.3600*1;", 3);
        bellFault("d1*0;", 3);
        bellFault("d1*25;", 3);
        bellFault("d1*25", 3);
        bellFault("d1*", 3);
        bellFault("d1*1", 4);
        bellFault("d1*1?", 5);
        bellFault("d1*1?;", 5);
        bellFault("d1*1?w;", 6);
        bellFault("d1*1?w&w<1;", 6);
        bellFault("d1*1?w<;", 7);
        bellFault("d1*1?w<1<2;", 8);
        bellFault("d1*1?w<1&;", 9);
        bellFault("d1*1?w<1|", 9);
        bellFault("d1*1?w<1", 8);
        bellFault("d1*1?w<1&w;", 10);
        bellFault("d1*1?w<-1;", 7);
        bellFault("d1*1?w<100000;", 12);
        bellFault("d1*1?ww<1;", 6);
        bellFault("d1*1?(w)<1;", 5);
        String eight = "d1*1;d2*1;d3*1;d4*1;d5*1;d6*1;d7*1;d8*1;";
        due("eight BELLS", Checks.bells(x, eight), 8);
        bellFault(eight + "d9*1;", 40);
        String things = "d1*1?w+w+w+w+w+w+w+w+w+w+w+w+w+w+w+w+w+w+w<1;";
        due("forty THINGS", Checks.bells(x, things + things), 2);
        bellFault(things + things + "n0*1?1<2;", 2 * things.length() + 5);
        bellFault(things + things.replace("<1", "+1<1"), 2 * things.length());
    }

    private static void actFault(String text, int place) {
        UnequalHours x = world();
        Checks.acts(x, "q61;q0;");
        due("acts() of " + text, Checks.acts(x, text), NONE);
        due("fault() of " + text, x.fault(), place);
        due("nothing done by " + text, x.is(1), 61);
        due("ended() by " + text, x.ended(), 1);
        due("is(3) by " + text, x.is(3), 2);
        due("is(4) by " + text, x.is(4), 0);
    }

    private static void actTexts() {
        UnequalHours x = world();
        due("acts()", Checks.acts(x, "o0,-5;q7;r0,180;s3,9,1,2;"), 4);
        due("ended()", x.ended(), NONE);
        due("fault()", x.fault(), NONE);
        due("town(0, 0)", x.town(0, 0), -5);
        due("is(1)", x.is(1), 7);
        due("town(0, 1)", x.town(0, 1), 1);
        due("town(3, 12)", x.town(3, 12), 2);
        due("is(3)", x.is(3), 5);
        due("acts() till refused", Checks.acts(x, "q8;q9;o4,0;q10;"), 2);
        due("ended()", x.ended(), 2);
        due("is(1)", x.is(1), 9);
        due("refused numbers", Checks.acts(x, "q-99999;"), 0);
        due("ended()", x.ended(), 0);
        due("no ACTS", Checks.acts(x, ""), 0);
        due("ended()", x.ended(), NONE);
        due("refused set", Checks.acts(x, "s0,0,5,5;"), 0);
        due("refused remove", Checks.acts(x, "q1;r0,1;"), 1);
        due("ended()", x.ended(), 1);
        actFault("o1;", 2);
        actFault("z", 0);
        actFault("q1;q", 4);
        actFault("q1;q2", 5);
        actFault("q1,2;", 2);
        actFault("q123456;", 6);
        actFault("s1,2,3;", 6);
        actFault("s1,2,3,4,5;", 8);
        actFault("r--1,2;", 2);
        StringBuilder many = new StringBuilder();
        for (int i = 1; i <= 30; i++) {
            many.append("q").append(i).append(";");
        }
        due("thirty ACTS", Checks.acts(x, many.toString()), 30);
        due("is(1)", x.is(1), 30);
        due("is(3)", x.is(3), 12);
        actFault(many + "q5;", many.length());
    }

    private static void tables() {
        UnequalHours x = world();
        due("table(0, 0, 0)", x.table(0, 0, 0), 25200);
        due("table(0, 0, 1)", x.table(0, 0, 1), 61200);
        due("table(0, 0, 2)", x.table(0, 0, 2), 36000);
        due("table(0, 0, 3)", x.table(0, 0, 3), 50360);
        due("table(0, 0, 4)", x.table(0, 0, 4), -1);
        due("table(0, 45, 0)", x.table(0, 45, 0), 23400);
        due("table(0, 350, 0)", x.table(0, 350, 0), 24800);
        due("table(0, 35990, 0)", x.table(0, 35990, 0), 24800);
        due("table(0, 35999, 3): no NIGHT", x.table(0, 35999, 3), -2);
        due("table(0, 35999, 2)", x.table(0, 35999, 2), 36080);
        due("one alone", x.table(1, 359, 0), 21600);
        due("POLAR of its own", x.table(2, 0, 4), 0);
        due("POLAR is the one ahead", x.table(2, 50, 4), 0);
        due("table(2, 50, 0)", x.table(2, 50, 0), -2);
        due("table(2, 50, 3)", x.table(2, 50, 3), -2);
        due("a POINT", x.table(2, 100, 2), 20000);
        due("no NIGHT ahead of POLAR", x.table(2, 100, 3), -2);
        due("POLAR is the next one", x.table(2, 150, 4), 1);
        due("the one ahead is asked first", x.table(2, 300, 4), 1);
        due("no POINTS", x.table(3, 7, 4), 0);
        due("table(0, 0, 5)", x.table(0, 0, 5), NONE);
        due("table(2, 0, 5)", x.table(2, 0, 5), NONE);
        due("table(0, 0, -1)", x.table(0, 0, -1), NONE);
        due("table(0, -1, 0)", x.table(0, -1, 0), NONE);
        due("table(0, 36000, 0)", x.table(0, 36000, 0), NONE);
        due("table(4, 0, 0)", x.table(4, 0, 0), NONE);
        UnequalHours y = new UnequalHours();
        Checks.text(y, "t0;p0,10,100;p7,7,109;");
        // 3 days of -3 by 7: -9 / 7 is cut downwards to -2; 3 of 9: 27 / 7 to 3.
        due("cut downwards", y.table(0, 3, 0), 8);
        due("cut downwards, upwards", y.table(0, 3, 1), 103);
    }

    private static void turnsAndBacks() {
        UnequalHours x = world();
        int[] light = {0, 0, 1, 1, 61, 3050};
        int[] night = {0, 1, 6, 1, 361, 25300};
        for (int what = 0; what <= 5; what++) {
            due("turn(0, 0, 28250, " + what + ")", x.turn(0, 0, 28250, what), light[what]);
            due("turn(0, 1, 100, " + what + ")", x.turn(0, 1, 100, what), night[what]);
        }
        due("turn(0, 0, 25199, 0)", x.turn(0, 0, 25199, 0), -2);
        due("turn(0, 0, 25200, 4)", x.turn(0, 0, 25200, 4), 0);
        due("turn(0, 0, 61199, 4)", x.turn(0, 0, 61199, 4), 719);
        due("turn(0, 0, 61200, 1)", x.turn(0, 0, 61200, 1), 1);
        due("turn(0, 0, 61200, 5)", x.turn(0, 0, 61200, 5), 0);
        due("turn(0, 35999, 80000, 0)", x.turn(0, 35999, 80000, 0), -2);
        due("turn(2, 100, 60000, 1): a day without a night", x.turn(2, 100, 60000, 1), -2);
        due("turn(2, 100, 10, 1)", x.turn(2, 100, 10, 1), -2);
        due("turn(2, 100, 40000, 2)", x.turn(2, 100, 40000, 2), 6);
        due("turn(2, 50, 40000, 2)", x.turn(2, 50, 40000, 2), -2);
        due("turn(0, 0, -1, 0)", x.turn(0, 0, -1, 0), NONE);
        due("turn(0, 0, 86400, 0)", x.turn(0, 0, 86400, 0), NONE);
        due("turn(2, 50, 40000, 6)", x.turn(2, 50, 40000, 6), NONE);
        due("turn(0, 0, 0, -1)", x.turn(0, 0, 0, -1), NONE);
        due("turn(0, -1, 0, 0)", x.turn(0, -1, 0, 0), NONE);
        due("turn(4, 0, 0, 0)", x.turn(4, 0, 0, 0), NONE);
        due("back(0, 0, 0, 61)", x.back(0, 0, 0, 61), 28250);
        due("back(0, 0, 0, 0)", x.back(0, 0, 0, 0), 25200);
        due("back(0, 0, 0, 719)", x.back(0, 0, 0, 719), 61150);
        due("back(0, 0, 1, 361)", x.back(0, 0, 1, 361), 86450);
        due("back(0, 0, 0, 720)", x.back(0, 0, 0, 720), NONE);
        due("back(0, 0, 0, -1)", x.back(0, 0, 0, -1), NONE);
        due("back(0, 0, 2, 0)", x.back(0, 0, 2, 0), NONE);
        due("back(0, 0, -1, 0)", x.back(0, 0, -1, 0), NONE);
        due("back(2, 50, 0, 0)", x.back(2, 50, 0, 0), -2);
        due("back(2, 50, 0, 720)", x.back(2, 50, 0, 720), NONE);
        due("back(2, 100, 1, 0)", x.back(2, 100, 1, 0), -2);
        due("back(0, 35999, 1, 0)", x.back(0, 35999, 1, 0), -2);
        due("back(0, 36000, 0, 0)", x.back(0, 36000, 0, 0), NONE);
        due("parts(3600)", x.parts(3600), 60);
        due("fine PARTS: none", x.back(0, 0, 0, 43199), -2);
        due("fine PARTS there", x.back(0, 0, 0, 43198), 61199);
        due("turn(0, 0, 61199, 4)", x.turn(0, 0, 61199, 4), 43198);
        Checks.acts(x, "q1;s3,0,5,6;s3,1,5,7;");
        due("a LIGHT of a second", x.turn(3, 0, 5, 4), 0);
        due("its first PLACE", x.back(3, 0, 0, 0), 5);
        due("there is none such", x.back(3, 0, 0, 1), -2);
        due("of two seconds", x.back(3, 1, 0, 6), 6);
        due("of two seconds, 1", x.back(3, 1, 0, 1), 6);
        due("of two seconds, 7", x.back(3, 1, 0, 7), -2);
    }

    private static void overAndDate() {
        UnequalHours x = world();
        due("over(0, 0, 86000, 1, 0)", x.over(0, 0, 86000, 1, 0), 1);
        due("over(0, 0, 86000, 1, 1)", x.over(0, 0, 86000, 1, 1), 3200);
        due("over(0, 0, 100, 2, 0)", x.over(0, 0, 100, 2, 0), -1);
        due("over(0, 0, 100, 2, 1)", x.over(0, 0, 100, 2, 1), 79300);
        due("over(2, 35999, 86399, 3, 0)", x.over(2, 35999, 86399, 3, 0), 36000);
        due("over(2, 35999, 86399, 3, 1)", x.over(2, 35999, 86399, 3, 1), 50399);
        due("over to itself", x.over(1, 5, 7, 1, 1), 7);
        due("over(0, -1, 0, 1, 0)", x.over(0, -1, 0, 1, 0), AWAY);
        due("over(0, 0, 86400, 1, 0)", x.over(0, 0, 86400, 1, 0), AWAY);
        due("over(0, 0, 0, 4, 0)", x.over(0, 0, 0, 4, 0), AWAY);
        due("over(4, 0, 0, 0, 0)", x.over(4, 0, 0, 0, 0), AWAY);
        due("over(0, 0, 0, 0, 2)", x.over(0, 0, 0, 0, 2), AWAY);
        due("date 0", x.date(2, 50, 7, 0), 50);
        due("date 1", x.date(0, 0, 25199, 1), -1);
        due("date 1 at DAWN", x.date(0, 0, 25200, 1), 0);
        due("date 2", x.date(0, 35999, 61199, 2), 35999);
        due("date 2 at DUSK", x.date(0, 35999, 80000, 2), 36000);
        due("date 3", x.date(2, 50, 43199, 3), 49);
        due("date 3 at noon", x.date(2, 50, 43200, 3), 50);
        due("date 1 POLAR", x.date(2, 50, 7, 1), -2);
        due("date 2 POLAR", x.date(2, 50, 7, 2), -2);
        due("date 4", x.date(0, 0, 0, 4), NONE);
        due("date -1", x.date(0, 0, 0, -1), NONE);
        due("date of no second", x.date(0, 0, 86400, 0), NONE);
        due("date of no DAY", x.date(0, 36000, 0, 0), NONE);
        due("date of no TOWN", x.date(4, 0, 0, 0), NONE);
    }

    private static void rings() {
        // In town 1 each LIGHT and NIGHT has 43200 seconds: an HOUR is 3600 long, a PART 60.
        UnequalHours x = world("n8*3;d0*1;d0*2;n0*4;d11.59*5;d1.60*6;n9*7?w=0;");
        due("how many", x.ring(1, 7, -1, 0), 5);
        due("how many, whatever else", x.ring(1, 7, -1, 9), 5);
        int[] seconds = {7200, 21600, 21600, 64740, 64800};
        int[] bells = {0, 1, 2, 4, 3};
        for (int i = 0; i < 5; i++) {
            due("a Tuesday's second " + i, x.ring(1, 9, i, 0), seconds[i]);
            due("a Tuesday's BELL " + i, x.ring(1, 9, i, 1), bells[i]);
        }
        due("STROKES", x.ring(1, 9, 3, 2), 5);
        due("ring 5", x.ring(1, 9, 5, 0), NONE);
        due("ring -2", x.ring(1, 9, -2, 0), NONE);
        due("ring what 3", x.ring(1, 9, 0, 3), NONE);
        due("the NIGHT's own weekday", x.ring(1, 8, 1, 1), 6);
        due("the NIGHT's own weekday, second", x.ring(1, 8, 1, 0), 10800);
        due("no NIGHT ahead of DAY 0", x.ring(1, 0, 0, 0), 21600);
        due("no NIGHT of DAY 35999", x.ring(1, 35999, -1, 0), 4);
        due("POLAR", x.ring(2, 50, -1, 0), 0);
        due("ring of no DAY", x.ring(1, 36000, -1, 0), NONE);
        due("ring of no TOWN", x.ring(4, 0, -1, 0), NONE);
        due("strokes(1, 9)", x.strokes(1, 9), 15);
        due("strokes(2, 50)", x.strokes(2, 50), 0);
        due("strokes of no TOWN", x.strokes(-1, 0), NONE);
        due("strokes of no DAY", x.strokes(1, -1), NONE);
        due("total(1, 9, 2)", x.total(1, 9, 2), 30);
        due("total(1, 35999, 60)", x.total(1, 35999, 60), 11);
        due("total of 61", x.total(1, 9, 61), NONE);
        due("total of 0", x.total(1, 9, 0), NONE);
        due("total of no DAY", x.total(1, 36000, 1), NONE);
        due("soonest then", x.soonest(1, 9, 21600), 0);
        due("soonest(1, 9, 21601)", x.soonest(1, 9, 21601), 43139);
        due("soonest the next DAY", x.soonest(1, 9, 64801), 86400 + 7200 - 64801);
        due("soonest none", x.soonest(1, 35999, 64741), -2);
        due("soonest POLAR", x.soonest(2, 50, 0), -2);
        due("soonest of no second", x.soonest(1, 9, -1), NONE);
        due("soonest of no DAY", x.soonest(1, 36000, 0), NONE);
        due("clash(1, 9, 0)", x.clash(1, 9, 0), 0);
        due("clash(1, 9, 1)", x.clash(1, 9, 1), 1);
        due("clash(1, 9, 60)", x.clash(1, 9, 60), 1);
        due("clash(1, 9, 61)", x.clash(1, 9, 61), 2);
        due("clash(1, 9, 86400)", x.clash(1, 9, 86400), 4);
        due("clash(1, 9, 86401)", x.clash(1, 9, 86401), NONE);
        due("clash(1, 9, -1)", x.clash(1, 9, -1), NONE);
        due("quiet begins", x.quiet(1, 9, 0), 21600);
        due("quiet lasts", x.quiet(1, 9, 1), 43140);
        due("quiet without RINGS", x.quiet(2, 50, 1), 86400);
        due("quiet without RINGS begins", x.quiet(2, 50, 0), 0);
        due("quiet what 2", x.quiet(1, 9, 2), NONE);
        due("busiest", x.busiest(1, 9, 3, 0), 0);
        due("busiest many", x.busiest(1, 9, 3, 1), 3);
        due("busiest at the beginning", x.busiest(1, 0, 1, 0), 1);
        due("busiest without RINGS", x.busiest(2, 50, 3, 0), NONE);
        due("busiest without RINGS, many", x.busiest(2, 50, 3, 1), 0);
        due("busiest of 61", x.busiest(1, 9, 61, 0), NONE);
        due("busiest what 2", x.busiest(1, 9, 3, 2), NONE);
        x.parts(61);
        due("a PART below PARTS now", x.ring(1, 9, -1, 0), 6);
        UnequalHours like = world("d6*1;n6*1;");
        due("quiet: of like ones the first", like.quiet(1, 9, 0), 0);
        due("quiet: of like ones", like.quiet(1, 9, 1), 43200);
    }

    private static void cond(String cond, int town, int day, boolean holds) {
        UnequalHours x = world("d0*1?" + cond + ";");
        due(cond + " in town " + town + " on " + day, x.ring(town, day, -1, 0), holds ? 1 : 0);
    }

    private static void conds() {
        cond("w=2", 1, 9, true);
        cond("w=2", 1, 10, false);
        cond("y=5", 0, 725, true);
        cond("z=725", 0, 725, true);
        cond("t=1", 1, 0, true);
        cond("t=1", 0, 0, false);
        cond("l=43200", 1, 3, true);
        cond("l>36000", 0, 0, false);
        cond("1<2&2<1", 0, 0, false);
        cond("1<2|2<1&3<1", 0, 0, true);
        cond("2<1&1<2|1=1", 0, 0, true);
        cond("1=2|2=2&3=3", 0, 0, true);
        cond("1=2&2=2|3=4", 0, 0, false);
        cond("2+3*4=14", 0, 0, true);
        cond("20-5-5=10", 0, 0, true);
        cond("100/7/2=7", 0, 0, true);
        cond("7/2*2=6", 0, 0, true);
        cond("5/0=0", 0, 0, true);
        cond("3-10/4=1", 0, 0, true);
        cond("65536*65536=0", 0, 0, true);
        cond("65535*65535<0", 0, 0, true);
        cond("0-32768*65536/2=32768*32768", 0, 0, true);
        cond("0-7+2*3-1<0", 0, 0, true);
        cond("00005=5", 0, 0, true);
        UnequalHours x = world("n1*1?l=50360;n0*1?z=0;");
        due("l of a NIGHT", x.ring(0, 0, -1, 0), 2);
        due("z of a NIGHT", x.ring(0, 1, -1, 0), 0);
    }

    private static void jarsAndWork() {
        UnequalHours x = world();
        // LIGHT of DAY 0 has 36000 seconds (3000 a mark), of DAY 180 50400 (4200 an HOUR).
        due("jar at DAWN", x.jar(0, 0, 180, 18000, 0), 0);
        due("jar", x.jar(0, 0, 180, 18000 + 8999, 0), 2);
        due("jar slip", x.jar(0, 0, 180, 18000 + 8999, 1), 0);
        due("jar later", x.jar(0, 0, 180, 18000 + 42000, 0), 12);
        due("jar at most 12", x.jar(0, 0, 180, 68399, 0), 12);
        due("jar slip later", x.jar(0, 0, 180, 18000 + 42000, 1), 2);
        due("jar slip below 0", x.jar(0, 180, 0, 61199, 1), 8 - 11);
        due("jar at DUSK", x.jar(0, 0, 180, 68400, 0), -100);
        due("jar ahead of DAWN", x.jar(0, 0, 180, 17999, 0), -100);
        due("jar POLAR", x.jar(2, 50, 100, 40000, 0), -100);
        due("jar POLAR other", x.jar(2, 100, 50, 40000, 0), -100);
        due("jar what 2", x.jar(2, 50, 100, 40000, 2), -1000);
        due("jar of no second", x.jar(0, 0, 180, 86400, 0), -1000);
        due("jar of no second, below", x.jar(0, 0, 180, -1, 0), -1000);
        due("jar of no DAY", x.jar(0, 36000, 180, 20000, 0), -1000);
        due("jar of no other DAY", x.jar(0, 0, -1, 20000, 0), -1000);
        due("jar of no TOWN", x.jar(4, 0, 180, 20000, 0), -1000);
        due("work(1, 0, 0, 0, 12)", x.work(1, 0, 0, 0, 12), 43200);
        due("work(1, 0, 359, 3, 5)", x.work(1, 0, 359, 3, 5), 360 * 7200);
        due("work(1, 0, 360, 3, 5)", x.work(1, 0, 360, 3, 5), NONE);
        due("work(2, 99, 101, 0, 1)", x.work(2, 99, 101, 0, 1), 1667);
        due("work(2, 99, 101, 11, 12)", x.work(2, 99, 101, 11, 12), 1666);
        due("work(2, 0, 50, 0, 12)", x.work(2, 0, 50, 0, 12), 0);
        due("work backwards", x.work(1, 5, 4, 0, 12), NONE);
        due("work(1, 0, 0, 5, 5)", x.work(1, 0, 0, 5, 5), NONE);
        due("work(1, 0, 0, -1, 5)", x.work(1, 0, 0, -1, 5), NONE);
        due("work(1, 0, 0, 0, 13)", x.work(1, 0, 0, 0, 13), NONE);
        due("work to no DAY", x.work(1, 35999, 36000, 0, 1), NONE);
        due("work of no TOWN", x.work(4, 0, 0, 0, 12), NONE);
    }

    private static void seasons() {
        UnequalHours x = world();
        due("longest", x.season(0, 0), 180);
        due("shortest", x.season(0, 1), 0);
        due("most alike", x.season(0, 2), 90);
        due("POLAR", x.season(0, 3), 0);
        due("of like ones the first", x.season(1, 0), 0);
        due("all but one POLAR", x.season(2, 3), 359);
        due("the only one", x.season(2, 1), 100);
        due("all POLAR", x.season(3, 0), -2);
        due("all POLAR", x.season(3, 3), 360);
        due("season what 4", x.season(3, 4), NONE);
        due("season what -1", x.season(0, -1), NONE);
        due("season of no TOWN", x.season(4, 0), NONE);
    }

    private static void meetings() {
        UnequalHours x = world();
        // Town 0 on DAY 0: HOURS of LIGHT of 3000 from 25200. Town 1, an hour ahead: LIGHT 18000 to 61200 by town 0.
        due("meet LIGHT", x.meet(1, 0, 2, 0, 0), 25200);
        due("meet LIGHT for", x.meet(1, 0, 2, 0, 1), 3000);
        due("meet later", x.meet(1, 1, 3, 0, 0), 28800);
        due("meet later for", x.meet(1, 1, 3, 0, 1), 2400);
        due("meet never", x.meet(1, 0, 5, 0, 0), AWAY);
        due("meet NIGHT past midnight", x.meet(1, 22, 23, 0, 0), 103167);
        due("meet NIGHT past midnight for", x.meet(1, 22, 23, 0, 1), 1233);
        due("meet NIGHT never", x.meet(1, 23, 23, 0, 0), AWAY);
        due("meet other DAY", x.meet(1, 22, 0, 0, 0), 104400);
        due("meet other DAY for", x.meet(1, 22, 0, 0, 1), 107364 - 104400);
        due("meet itself", x.meet(0, 3, 3, 0, 1), 3000);
        due("meet POLAR", x.meet(2 * 4, 0, 0, 50, 0), AWAY);
        due("meet with POLAR", x.meet(3, 0, 0, 50, 0), AWAY);
        due("meet what 2", x.meet(1, 0, 2, 0, 2), AWAY);
        due("meet HOUR 24", x.meet(1, 24, 2, 0, 0), AWAY);
        due("meet HOUR -1", x.meet(1, 0, -1, 0, 0), AWAY);
        due("meet key 16", x.meet(16, 0, 2, 0, 0), AWAY);
        due("meet key -1", x.meet(-1, 0, 2, 0, 0), AWAY);
        due("meet no DAY", x.meet(1, 0, 2, 36000, 0), AWAY);
    }

    private static void middlesAndApart() {
        UnequalHours x = world();
        due("noon", x.middle(0, 0, 0, 0), 43200);
        due("noon is at noon", x.middle(0, 0, 0, 1), 0);
        due("midnight", x.middle(0, 0, 1, 0), 86380);
        due("midnight behind", x.middle(0, 0, 1, 1), -20);
        due("noon of POLAR", x.middle(2, 50, 0, 0), AWAY);
        due("noon of a short DAY", x.middle(2, 100, 0, 1), -3200);
        due("no NIGHT", x.middle(2, 100, 1, 0), AWAY);
        due("middle half 2", x.middle(0, 0, 2, 0), AWAY);
        due("middle what 2", x.middle(0, 0, 0, 2), AWAY);
        due("middle no DAY", x.middle(0, -1, 0, 0), AWAY);
        due("middle no TOWN", x.middle(4, 0, 0, 0), AWAY);
        due("apart", x.apart(0, 0, 0, 0, 61), 3050);
        due("apart backwards", x.apart(0, 0, 0, 61, 0), -3050);
        due("apart in NIGHT", x.apart(0, 0, 1, 0, 361), 25250);
        due("apart none", x.apart(0, 0, 0, 0, 720), AWAY);
        due("apart POLAR", x.apart(2, 50, 0, 0, 1), AWAY);
        due("apart half", x.apart(0, 0, 2, 0, 1), AWAY);
        due("apart no TOWN", x.apart(4, 0, 0, 0, 1), AWAY);
    }

    private static void bestCandleAlikeGrowth() {
        UnequalHours x = world();
        due("best longest", x.best(0, 0, 360, 0, 0), 180);
        due("best soonest", x.best(0, 0, 360, 0, 1), 180);
        due("best latest", x.best(0, 0, 360, 0, 2), 0);
        due("best of like ones", x.best(1, 17, 360, 3, 2), 17);
        due("best behind POLAR", x.best(2, 0, 360, 11, 0), 100);
        due("best all POLAR", x.best(2, 0, 100, 0, 0), -2);
        due("best above 35999", x.best(0, 35999, 360, 0, 0), 35999);
        due("best of 361", x.best(0, 0, 361, 0, 0), NONE);
        due("best of 0", x.best(0, 0, 0, 0, 0), NONE);
        due("best HOUR 12", x.best(0, 0, 1, 12, 0), NONE);
        due("best what 3", x.best(0, 0, 1, 0, 3), NONE);
        due("best no TOWN", x.best(4, 0, 1, 0, 0), NONE);
        due("candle alike", x.candle(1, 0, 5), 5 + 11);
        due("candle POLAR", x.candle(2, 50, 100), -2);
        due("candle goes out", x.candle(2, 100, 300), -2);
        due("candle burns longer", x.candle(1, 0, 35989), -2);
        due("candle no DAY", x.candle(1, 36000, 0), NONE);
        due("candle from no DAY", x.candle(1, 0, -1), NONE);
        due("candle no TOWN", x.candle(4, 0, 0), NONE);
        due("alike", x.alike(0, 90, 91), 270);
        due("alike itself", x.alike(0, 90, 90), 90);
        due("alike a year on", x.alike(0, 0, 1), 360);
        due("alike one alone", x.alike(2, 100, 101), 460);
        due("alike not 360 on", x.alike(2, 100, 35901), -2);
        due("alike POLAR", x.alike(2, 50, 0), -2);
        due("alike no DAY", x.alike(0, -1, 0), NONE);
        due("alike from no DAY", x.alike(0, 0, 36000), NONE);
        due("growth", x.growth(0, 0, 181, 0), 14400);
        due("growth most", x.growth(0, 0, 181, 1), 80);
        due("growth on", x.growth(0, 0, 181, 2), 1);
        due("growth below 0", x.growth(0, 181, 180, 1), -80);
        due("growth of DAY 0", x.growth(0, 0, 1, 0), 0);
        due("growth of DAY 0, most", x.growth(0, 0, 1, 1), AWAY);
        due("growth of DAY 0, on", x.growth(0, 0, 1, 2), -2);
        due("growth POLAR", x.growth(2, 99, 10, 2), -2);
        due("growth above 35999", x.growth(0, 35999, 360, 0), -80);
        due("growth of 361", x.growth(0, 0, 361, 0), AWAY);
        due("growth what 3", x.growth(0, 0, 1, 3), AWAY);
        due("growth no TOWN", x.growth(4, 0, 1, 0), AWAY);
        due("spare", x.spare(0), 0);
        due("spare of one", x.spare(1), 0);
        due("spare of none", x.spare(3), 0);
        due("spare of no TOWN", x.spare(4), NONE);
        Checks.acts(x, "s0,90,21600,64800;s3,0,1,9;s3,10,1,9;");
        due("spare in a line", x.spare(0), 1);
        due("spare of two", x.spare(3), 2);
        UnequalHours y = new UnequalHours();
        Checks.text(y, "t0;x0,1;x10,1;x20,0;p30,1,2;x40,0;");
        // Without 0 the one ahead is 40 (dark); without 10 it is 0 (light); 20, 30 not; without 40: the one ahead
        // has hours, the next one is 0, light.
        due("spare POLAR", y.spare(0), 1);
    }

    private static void sharedAndSame() {
        UnequalHours x = world("d0*1;n6*2;");
        due("shared", x.shared(1, 0, 0), 36000);
        due("shared, of how many", x.shared(1, 0, 1), 1);
        due("shared turned", x.shared(4, 0, 0), 36000);
        due("shared with POLAR", x.shared(2, 0, 0), 0);
        due("shared of POLAR", x.shared(8, 0, 1), 0);
        due("shared with itself", x.shared(0, 5, 0), x.table(0, 5, 2));
        due("shared what 2", x.shared(1, 0, 2), NONE);
        due("shared key 16", x.shared(16, 0, 0), NONE);
        due("shared no DAY", x.shared(1, 36000, 0), NONE);
        Checks.acts(x, "o0,-43200;o3,43200;s3,0,0,86399;");
        due("shared of two", x.shared(3 * 4, 3, 0), x.table(0, 2, 2));
        due("shared a day apart", x.shared(3, 3, 1), 1);
        Checks.acts(x, "o3,0;");
        due("shared of two DAYS", x.shared(3, 3, 1), 2);
        due("shared of two DAYS, seconds", x.shared(3, 3, 0), x.table(0, 3, 2) - 1);
        UnequalHours y = world("d0*1;n6*2;");
        due("same with itself", y.same(5, 9), 2);
        due("same", y.same(1, 9), 0);
        // Town 1's DAWN is 18000 by COMMON time, as town 0's on DAY 180.
        due("same at DAWN", y.same(1, 180), 1);
        due("same turned", y.same(4, 180), 1);
        due("same with POLAR", y.same(6, 9), 0);
        due("same key -1", y.same(-1, 9), NONE);
        due("same no DAY", y.same(1, -1), NONE);
        UnequalHours z = world("d0*1;d0*2;n0*1;n6*1?t=1;");
        due("same: each", z.same(5, 9), 4);
    }

    private static void runners() {
        UnequalHours x = world();
        due("arrive", x.arrive(1, 0, 86000, 1000, 0), 1);
        due("arrive second", x.arrive(1, 0, 86000, 1000, 1), 4200);
        due("arrive NIGHT", x.arrive(1, 0, 86000, 1000, 2), 1);
        due("arrive HOUR", x.arrive(1, 0, 86000, 1000, 3), 7);
        due("arrive ten days on", x.arrive(1, 0, 0, 864000, 0), 10);
        due("arrive in POLAR", x.arrive(2, 50, 40000, 0, 2), -2);
        due("arrive in POLAR, DAY", x.arrive(2, 50, 40000, 0, 0), 50);
        due("arrive at no DAY", x.arrive(4, 0, 0, 0, 0), -2);
        due("arrive at no DAY above", x.arrive(0, 35999, 86399, 1, 1), -2);
        due("arrive late", x.arrive(1, 0, 0, 864001, 0), NONE);
        due("arrive below 0", x.arrive(1, 0, 0, -1, 0), NONE);
        due("arrive what 4", x.arrive(1, 0, 0, 0, 4), NONE);
        due("arrive what 4 at no DAY", x.arrive(4, 0, 0, 0, 4), NONE);
        due("arrive key 16", x.arrive(16, 0, 0, 0, 0), NONE);
        due("arrive no second", x.arrive(1, 0, 86400, 0, 0), NONE);
        due("shows DAY", x.shows(1, 0, 0, 0, 0), 0);
        due("shows LIGHT", x.shows(1, 0, 0, 0, 1), 0);
        due("shows PLACE", x.shows(1, 0, 0, 0, 2), 120);
        due("shows NIGHT", x.shows(1, 0, 1, 361, 1), 1);
        due("shows its DAY", x.shows(1, 0, 1, 361, 0), 0);
        due("shows its PLACE", x.shows(1, 0, 1, 361, 2), (86450 + 3600 - 64800) / 60);
        due("shows none such", x.shows(2 * 4, 50, 0, 0, 2), -2);
        due("shows in POLAR", x.shows(2, 50, 0, 0, 2), -2);
        due("shows no DAY", x.shows(1, 0, 0, 720, 2), NONE);
        due("shows wrong half", x.shows(1, 0, 2, 0, 2), NONE);
        due("shows what 3", x.shows(2 * 4, 50, 0, 0, 3), NONE);
        due("shows key 16", x.shows(16, 0, 0, 0, 2), NONE);
        due("shows ahead of DAY 0", x.shows(4 + 2, 0, 0, 0, 0), -2);
        Checks.acts(x, "o0,43200;o2,-43200;");
        due("shows DAY -1", x.shows(2, 0, 0, 0, 0), -2);
    }

    private static void watchesAndExact() {
        UnequalHours x = world();
        due("watch 0", x.watch(0, 0, 0, 0), 61200);
        due("watch 0 long", x.watch(0, 0, 0, 1), 12590);
        due("watch 3", x.watch(0, 0, 3, 0), 98970);
        due("watch 1", x.watch(1, 0, 1, 0), 75600);
        due("watch without NIGHT", x.watch(2, 100, 0, 0), -2);
        due("watch of DAY 35999", x.watch(0, 35999, 0, 0), -2);
        due("watch 4", x.watch(0, 0, 4, 0), NONE);
        due("watch -1", x.watch(0, 0, -1, 0), NONE);
        due("watch what 2", x.watch(2, 100, 0, 2), NONE);
        due("watch no DAY", x.watch(0, 36000, 0, 0), NONE);
        due("exact upper", x.exact(0, 0, 1, 0), 12590);
        due("exact lower", x.exact(0, 0, 1, 1), 3);
        due("exact whole", x.exact(0, 0, 0, 1), 1);
        due("exact POLAR", x.exact(2, 50, 0, 0), -2);
        due("exact half 2", x.exact(0, 0, 2, 0), NONE);
        due("exact what 2", x.exact(0, 0, 0, 2), NONE);
        due("exact no TOWN", x.exact(4, 0, 0, 0), NONE);
        Checks.acts(x, "s3,0,0,5;s3,1,0,18;");
        due("exact 5", x.exact(3, 0, 0, 0), 5);
        due("exact 5 of 12", x.exact(3, 0, 0, 1), 12);
        due("exact 18", x.exact(3, 1, 0, 0), 3);
        due("exact 18 of 12", x.exact(3, 1, 0, 1), 2);
    }

    private static void spreads() {
        UnequalHours x = world();
        due("spread longest", x.spread(0, 0), 1);
        due("spread shortest", x.spread(0, 1), 0);
        due("spread apart", x.spread(0, 2), 7200);
        due("spread with 2", x.spread(100, 1), 2);
        due("spread like ones", x.spread(90, 0), 0);
        due("spread like ones, shortest", x.spread(90, 1), 0);
        due("spread what 3", x.spread(0, 3), NONE);
        due("spread no DAY", x.spread(-1, 0), NONE);
    }

    private static void untilAndLag() {
        UnequalHours x = world();
        due("until then", x.until(0, 0, 25200, 0, 0), 0);
        due("until the next DAY", x.until(0, 0, 25201, 0, 0), 86400 + 25160 - 25201);
        due("until in the NIGHT of the DAY ahead", x.until(1, 5, 0, 1, 360), 0);
        due("until in the NIGHT", x.until(1, 5, 1, 1, 360), 86399);
        due("until two DAYS on", x.until(2, 98, 0, 0, 0), 2 * 86400 + 30000);
        due("until three DAYS on", x.until(2, 97, 0, 0, 0), -2);
        due("until none", x.until(3, 0, 0, 0, 0), -2);
        due("until no second", x.until(0, 0, 86400, 0, 0), NONE);
        due("until no PLACE", x.until(0, 0, 0, 0, 720), NONE);
        due("until no half", x.until(0, 0, 0, 2, 0), NONE);
        due("until no TOWN", x.until(4, 0, 0, 0, 0), NONE);
        due("lag", x.lag(1, 0, 0, 0), (21600 - 3600) - 25200);
        due("lag turned", x.lag(4, 0, 0, 0), 25200 - (21600 - 3600));
        due("lag POLAR", x.lag(2, 50, 0, 0), AWAY);
        due("lag of POLAR", x.lag(8, 50, 0, 0), AWAY);
        due("lag no PLACE", x.lag(1, 0, 0, 720), AWAY);
        due("lag key 16", x.lag(16, 0, 0, 0), AWAY);
        due("lag key -1", x.lag(-1, 0, 0, 0), AWAY);
    }

    private static void changes() {
        UnequalHours x = world();
        due("offset", x.offset(0, -43200), 0);
        due("offset was", x.offset(0, 43200), -43200);
        due("offset too far", x.offset(0, 43201), AWAY);
        due("offset no TOWN", x.offset(4, 0), AWAY);
        due("parts", x.parts(3600), 60);
        due("parts was", x.parts(1), 3600);
        due("parts 0", x.parts(0), NONE);
        due("parts 3601", x.parts(3601), NONE);
        due("is(3)", x.is(3), 5);
        due("set between", x.set(0, 90, 5, 6), 3);
        due("set there", x.town(0, 15), 5);
        due("set moved", x.town(0, 18), 180);
        due("set another", x.set(0, 90, 7, 8), 3);
        due("set on POLAR", x.set(2, 0, 7, 8), 3);
        due("is(6)", x.is(6), 1);
        due("set ahead", x.set(1, 359, 0, 86399), 2);
        due("set YDAY 360", x.set(0, 360, 5, 6), NONE);
        due("set YDAY -1", x.set(0, -1, 5, 6), NONE);
        due("set DUSK", x.set(0, 1, 6, 6), NONE);
        due("set DAWN", x.set(0, 1, -1, 6), NONE);
        due("set DUSK 86400", x.set(0, 1, 6, 86400), NONE);
        due("set no TOWN", x.set(4, 1, 6, 7), NONE);
        for (int i = 0; i < 12; i++) {
            due("set " + i, x.set(3, 100 - i, i, i + 1), i + 1);
        }
        due("a 13th", x.set(3, 50, 1, 2), NONE);
        due("another one of twelve", x.set(3, 95, 1, 2), 12);
        due("sorted", x.town(3, 10), 89);
        due("sorted, last", x.town(3, 10 + 4 * 11), 100);
        due("remove", x.remove(3, 89), 11);
        due("removed", x.town(3, 10), 90);
        due("remove none", x.remove(3, 89), NONE);
        due("remove no YDAY", x.remove(3, -1), NONE);
        due("remove no TOWN", x.remove(4, 0), NONE);
        due("remove the last", x.remove(3, 100), 10);
    }

    private static void deeds() {
        UnequalHours x = new UnequalHours();
        due("nothing to undo", x.undo(), NONE);
        Checks.text(x, "t1;");
        Checks.bells(x, "d0*1;");
        due("undo bells", x.undo(), 1);
        due("no BELLS", x.is(2), 0);
        due("undo text", x.undo(), 0);
        due("no TOWNS", x.is(0), 0);
        due("undo none", x.undo(), NONE);
        for (int i = 1; i <= 20; i++) {
            x.parts(i);
        }
        due("refused is no deed", x.parts(0), NONE);
        due("twelve at most", x.is(3), 12);
        for (int i = 11; i >= 0; i--) {
            due("undo to " + i, x.undo(), i);
            due("PARTS by then", x.is(1), 8 + i);
        }
        due("no more", x.undo(), NONE);
        due("PARTS stay", x.is(1), 8);
        Checks.put(x, "abc");
        x.parts(9);
        x.undo();
        due("the tape is not taken back", x.is(4), 3);
        x.end(0);
        Checks.text(x, "t1;p5,6,7;");
        x.offset(0, 2);
        x.set(0, 6, 1, 2);
        x.remove(0, 5);
        due("undo remove", x.undo(), 3);
        due("undone remove", x.town(0, 1), 2);
        due("undo set", x.undo(), 2);
        due("undone set", x.town(0, 1), 1);
        due("undo offset", x.undo(), 1);
        due("undone offset", x.town(0, 0), 1);
    }

    private static void keptStates() {
        UnequalHours x = world("d0*1;");
        Checks.due("keep(2)", x.keep(2), false);
        Checks.due("keep(-1)", x.keep(-1), false);
        Checks.due("restore(0)", x.restore(0), false);
        Checks.due("keep(0)", x.keep(0), true);
        due("keep is no deed", x.is(3), 2);
        Checks.due("restore(1)", x.restore(1), false);
        Checks.due("restore(2)", x.restore(2), false);
        Checks.due("restore(-1)", x.restore(-1), false);
        x.parts(5);
        x.bells();
        x.remove(0, 0);
        x.offset(1, 0);
        Checks.put(x, "abc");
        Checks.due("keep(1)", x.keep(1), true);
        Checks.due("restore(0)", x.restore(0), true);
        due("PARTS", x.is(1), 60);
        due("BELLS", x.is(2), 1);
        due("a deed more", x.is(3), 7);
        due("the tape stays", x.is(4), 3);
        due("POINTS", x.is(5), 6);
        due("OFFSET", x.town(1, 0), 3600);
        due("undo restore", x.undo(), 6);
        due("PARTS again", x.is(1), 5);
        due("BELLS again", x.is(2), 0);
        x.parts(77);
        Checks.due("restore(1)", x.restore(1), true);
        due("PARTS as kept", x.is(1), 5);
        x.parts(78);
        Checks.due("restore(1) once more", x.restore(1), true);
        due("PARTS as kept", x.is(1), 5);
    }

    private static void writing() {
        UnequalHours x = world();
        String all = Checks.written(x, 0) + Checks.written(x, 1) + Checks.written(x, 2) + Checks.written(x, 3);
        Checks.due("written as told: " + all, all.equals(WORLD), true);
        due("octet(7)", x.octet(7), NONE);
        due("octet(6)", x.octet(6), ';');
        due("octet(-1)", x.octet(-1), NONE);
        due("write(4)", x.write(4), NONE);
        due("what was written latest", x.octet(0), 't');
        due("write(-1)", x.write(-1), NONE);
        Checks.acts(x, "o3,-43200;");
        for (int i = 0; i < 12; i++) {
            x.set(3, 348 + i, 86398, 86399);
        }
        due("the longest", x.write(3), 8 + 12 * 17);
        due("its end", x.octet(8 + 12 * 17 - 1), ';');
    }

    /** Nothing of an earlier text is left over. */
    private static void staleTexts() {
        UnequalHours x = world("d1*2?w<9;n0*1?1=2;");
        due("a COND goes", Checks.bells(x, "d1*2;n0*1;"), 2);
        due("THINGS of none", x.bell(0, 4), 0);
        due("THINGS of none, of the second", x.bell(1, 4), 0);
        due("both ring", x.strokes(1, 9), 3);
        due("a FAULT", Checks.bells(x, "d1*2?w<9;e"), NONE);
        due("its place", x.fault(), 9);
        due("BELLS stay", x.bell(0, 4), 0);
        due("well again", Checks.acts(x, ""), 0);
        due("no FAULT", x.fault(), NONE);
        UnequalHours y = new UnequalHours();
        Checks.put(y, "t12345;");
        y.end(3);
        due("what was cut off is not read", y.text(), NONE);
        due("its length", y.fault(), 3);
        due("-0", Checks.text(y, "t-0;p-0,-0,5;x1,-0;"), 3);
        due("dark by -0", y.town(0, 17), 0);
        textFault("t0;p0,1,-;", 9);
        textFault("t0;p0,-;", 7);
        textFault("t0;p-;", 5);
        textFault("t0;x0,-;", 7);
    }

    private static void edgesOfDays() {
        UnequalHours x = new UnequalHours();
        Checks.text(x, "t0;p348,100,200;");
        for (int i = 1; i < 12; i++) {
            x.set(0, 348 + i, 100 + i, 200 + 3 * i);
        }
        due("the last of twelve POINTS", x.table(0, 359, 1), 233);
        due("behind the last of twelve", x.table(0, 0, 1), 233 - 1);
        due("ahead of the first of twelve", x.table(0, 347, 1), 200);
        Checks.bells(x, "d0*1?1=2;d1*1?1=2;d2*1?1=2;d3*1?1=2;d4*1?1=2;d5*1?1=2;d6*1?1=2;d7*1;");
        due("busiest, the eighth BELL", x.busiest(0, 0, 9, 0), 7);
        due("busiest, the eighth BELL, many", x.busiest(0, 0, 9, 1), 9);
        // From DAY 1 on 359 times 20 burn, 7180 in all; on DAY 360 a twelfth is 652, or 654.
        UnequalHours y = new UnequalHours();
        Checks.text(y, "t0;p0,0,7824;p1,0,240;p359,0,240;t0;p0,0,7848;p1,0,240;p359,0,240;");
        due("candle on the last DAY asked", y.candle(0, 0, 1), 360);
        due("candle a DAY further", y.candle(1, 0, 1), -2);
        due("work of 360 DAYS", y.work(0, 1, 360, 0, 12), 359 * 240 + 7824);
        due("work of 361 DAYS", y.work(0, 1, 361, 0, 12), NONE);
        due("work turned", y.work(0, 2, 1, 0, 12), NONE);
        // HOURS of a LIGHT of five seconds: the first begins at 0, of the next four pairs only one has a second.
        Checks.text(y, "t0;p0,0,5;");
        due("a short LIGHT's HOUR", y.back(2, 0, 0, 60), 1);
        due("no such second", y.back(2, 0, 0, 12 * 60 - 1), -2);
        due("work to DUSK", y.work(2, 0, 0, 10, 11), 0);
        due("work from HOUR 9", y.work(2, 0, 0, 9, 12), 1);
        due("apart none such", y.apart(2, 0, 0, 0, 719), AWAY);
        due("lag none such", y.lag(2, 0, 0, 719), AWAY);
        due("until none such", y.until(2, 0, 0, 0, 719), -2);
        due("best where an HOUR is DUSK", y.best(2, 0, 1, 11, 2), 0);
    }

    private static void edgesOfTowns() {
        UnequalHours x = new UnequalHours();
        Checks.text(x, "t0;p0,1000,2000;t0;p0,2000,3000;t43200;p0,0,100;t-43200;p0,0,100;");
        due("shared by one that only touches", x.shared(1, 5, 0), 0);
        due("of no DAYS", x.shared(1, 5, 1), 0);
        due("meet where one only touches", x.meet(1, 11, 0, 5, 0), AWAY);
        due("meet the DAY ahead", x.meet(2 * 4 + 3, 0, 0, 5, 0), 0);
        due("meet the DAY ahead of 0", x.meet(2 * 4 + 3, 0, 0, 0, 0), AWAY);
        due("meet the next DAY", x.meet(3 * 4 + 2, 0, 0, 5, 1), 9);
        due("meet DAY 36000", x.meet(3 * 4 + 2, 0, 0, 35999, 0), AWAY);
        due("meet in another HOUR", x.meet(3 * 4 + 2, 0, 23, 5, 0), AWAY);
        UnequalHours y = new UnequalHours();
        // The second one's DAWN is the first one's, by its time on the next DAY.
        Checks.text(y, "t0;p0,80000,86399;t43200;p0,36800,86399;");
        Checks.bells(y, "d0*1;");
        due("same on the next DAY", y.same(1, 5), 1);
        due("same on the DAY ahead", y.same(4, 5), 1);
        due("same above 35999", y.same(1, 35999), 0);
        due("same below 0", y.same(4, 0), 0);
    }
}
