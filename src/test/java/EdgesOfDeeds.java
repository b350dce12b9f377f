/** Boundaries of what is told, changed, taken back, kept: promises 9, 44 to 50. */
final class EdgesOfDeeds extends Cases {
    private static final String TWELVE = "x1,0;x2,1;x3,0;p4,1,2;p5,1,2;p6,1,2;p7,1,2;p8,1,2;"
        + "p9,1,2;p10,1,2;p11,1,2;p12,1,2;";

    // ---- 9: is ----

    void p09_what() {
        bounds(a -> x.is(a[0]), with(0), 0, 0, 0, 6, 0, NONE);
    }

    void p09_towns() {
        due(x.is(0), 0);
        text("t0;t0;t0;", 3);
        due(x.is(0), 3);
        text("t0;", 1);
        due(x.is(0), 4);
    }

    void p09_parts() {
        due(x.is(1), 60);
        x.parts(1);
        due(x.is(1), 1);
        x.parts(3600);
        due(x.is(1), 3600);
    }

    void p09_bells() {
        due(x.is(2), 0);
        bells("d0*1;", 1);
        due(x.is(2), 1);
        bells(repeated("d0*1;", 8), 8);
        due(x.is(2), 8);
        bells("", 0);
        due(x.is(2), 0);
    }

    void p09_deeds() {
        due(x.is(3), 0);
        for (int i = 1; i <= 12; i++) {
            x.parts(i);
            due(x.is(3), i);
        }
        x.parts(13);
        due(x.is(3), 12);
        x.undo();
        due(x.is(3), 11);
    }

    void p09_bytes() {
        due(x.is(4), 0);
        for (int i = 1; i <= 25; i++) {
            x.feed(0, 0, 0, 0, 0);
            due(x.is(4), 20 * i);
        }
        x.feed(0, 0, 0, 0, 0);
        due(x.is(4), 500);
        x.end(499);
        due(x.is(4), 499);
    }

    void p09_points() {
        due(x.is(5), 0);
        text("t0;", 1);
        due(x.is(5), 0);
        text(TWELVE + "t0;" + TWELVE, 25);
        text("t0;" + TWELVE + "t0;" + TWELVE, 26);
        due(x.is(5), 48);
        x.remove(3, 1);
        due(x.is(5), 47);
    }

    void p09_polarPoints() {
        due(x.is(6), 0);
        text("t0;p0,1,2;", 2);
        due(x.is(6), 0);
        text("x1,0;x2,1;t0;x0,0;", 4);
        due(x.is(6), 3);
        due(x.is(5), 4);
        x.set(0, 2, 1, 2);
        due(x.is(6), 2);
        due(x.is(5), 4);
    }

    // ---- 44: offset ----

    private int offset(int[] a) {
        return x.offset(a[0], a[1]);
    }

    void p44_whichTown() {
        text("t5;t6;t7;t8;", 4);
        bounds(this::offset, with(0, 9), 0, 0, 5, 3, 8, AWAY);
        due(x.town(0, 0), 9);
        due(x.town(1, 0), 6);
        due(x.town(2, 0), 7);
        due(x.town(3, 0), 9);
    }

    void p44_noTowns() {
        refused(() -> x.offset(0, 0), AWAY);
    }

    void p44_oneBehindTheLastTown() {
        text("t5;", 1);
        refused(() -> x.offset(1, 0), AWAY);
    }

    void p44_number() {
        text("t5;", 1);
        bounds(this::offset, with(0, 0), 1, -43200, 5, 43200, -43200, AWAY);
        due(x.town(0, 0), 43200);
        due(x.offset(0, 0), 43200);
    }

    void p44_theSameNumberIsADeed() {
        text("t5;", 1);
        due(x.offset(0, 5), 5);
        due(x.is(3), 2);
    }

    void p44_whatItWasMayBeBelow0() {
        text("t-1;", 1);
        due(x.offset(0, 3), -1);
        due(x.town(0, 0), 3);
        due(x.is(3), 2);
    }

    void p44_whatItWasMayBeBelow0InActs() {
        text("t-1;t-43200;", 2);
        acts("o0,3;o1,4;", 2);
        due(x.ended(), NONE);
        due(x.town(0, 0), 3);
        due(x.town(1, 0), 4);
    }

    void p44_pointsStay() {
        text("t5;p6,7,8;", 2);
        x.offset(0, 0);
        due(x.town(0, 1), 1);
        due(x.table(0, 6, 0), 7);
    }

    // ---- 45: parts ----

    void p45_number() {
        bounds(a -> x.parts(a[0]), with(1), 0, 1, 60, 3600, 1, NONE);
        due(x.is(1), 3600);
    }

    void p45_none() {
        refused(() -> x.parts(0), NONE);
        due(x.is(1), 60);
    }

    void p45_theSameNumberIsADeed() {
        due(x.parts(60), 60);
        due(x.is(3), 1);
    }

    void p45_placesTurnWithThem() {
        text(PLAIN, 2);
        due(x.back(0, 5, 0, 719), 64740);
        due(x.parts(1), 60);
        due(x.back(0, 5, 0, 719), NONE);
        due(x.back(0, 5, 0, 11), 61200);
        due(x.parts(3600), 1);
        due(x.back(0, 5, 0, 719), 21600 + 719);
        due(x.turn(0, 5, 64799, 4), 43199);
    }

    // ---- 46: set ----

    private int set(int[] a) {
        return x.set(a[0], a[1], a[2], a[3]);
    }

    void p46_whichTown() {
        text("t0;t0;t0;t0;x9,1;", 5);
        bounds(this::set, with(0, 5, 1, 2), 0, 0, 1, 3, 2, NONE);
        due(x.town(1, 1), 0);
    }

    void p46_noTowns() {
        refused(() -> x.set(0, 5, 1, 2), NONE);
    }

    void p46_oneBehindTheLastTown() {
        text("t0;", 1);
        refused(() -> x.set(1, 5, 1, 2), NONE);
    }

    void p46_yday() {
        text("t0;", 1);
        bounds(this::set, with(0, 5, 1, 2), 1, 0, 1, 359, 2, NONE);
        due(x.town(0, 10), 0);
        due(x.town(0, 14), 359);
    }

    void p46_dawn() {
        text("t0;", 1);
        bounds(this::set, with(0, 5, 1, 86399), 2, 0, 1, 86398, 1, NONE);
        due(x.town(0, 11), 86398);
    }

    void p46_dusk() {
        text("t0;", 1);
        bounds(this::set, with(0, 5, 0, 1), 3, 1, 1, 86399, 1, NONE);
        due(x.town(0, 12), 86399);
    }

    void p46_dawnTheLesser() {
        text("t0;", 1);
        due(x.set(0, 5, 7, 8), 1);
        refused(() -> x.set(0, 5, 7, 7), NONE);
        refused(() -> x.set(0, 5, 8, 7), NONE);
        refused(() -> x.set(0, 5, 0, 0), NONE);
        refused(() -> x.set(0, 5, 86399, 86399), NONE);
        refused(() -> x.set(0, 5, 86399, 86400), NONE);
        refused(() -> x.set(0, 5, -2, -1), NONE);
    }

    void p46_polarIsNotSet() {
        text("t0;", 1);
        refused(() -> x.set(0, 5, NONE, NONE), NONE);
        refused(() -> x.set(0, 5, 1, NONE), NONE);
    }

    void p46_theTwelfth() {
        text("t0;", 1);
        for (int i = 0; i < 12; i++) {
            due(x.set(0, 3 * i, 1, 2), i + 1);
        }
        due(x.town(0, 1), 12);
    }

    void p46_twelveAreThere() {
        text("t0;" + TWELVE, 13);
        refused(() -> x.set(0, 0, 1, 2), NONE);
        refused(() -> x.set(0, 13, 1, 2), NONE);
        refused(() -> x.set(0, 359, 1, 2), NONE);
    }

    void p46_anotherOneWithTwelveThere() {
        text("t0;" + TWELVE, 13);
        due(x.set(0, 1, 7, 8), 12);
        due(x.set(0, 7, 9, 10), 12);
        due(x.set(0, 12, 11, 12), 12);
        due(x.table(0, 1, 0), 7);
        due(x.table(0, 7, 1), 10);
        due(x.table(0, 12, 0), 11);
        due(x.is(6), 2);
        due(x.is(5), 12);
    }

    void p46_oneMoreWhereOneHasGone() {
        text("t0;" + TWELVE, 13);
        due(x.remove(0, 6), 11);
        due(x.set(0, 359, 1, 2), 12);
        refused(() -> x.set(0, 6, 1, 2), NONE);
    }

    void p46_twelveOfAnotherTown() {
        text("t0;" + TWELVE + "t0;", 14);
        due(x.set(1, 0, 1, 2), 1);
    }

    private void points(int... ydays) {
        due(x.town(0, 1), ydays.length);
        for (int i = 0; i < ydays.length; i++) {
            due(x.town(0, 10 + 4 * i), ydays[i]);
            due(x.town(0, 11 + 4 * i), 10 * ydays[i]);
            due(x.town(0, 12 + 4 * i), 10 * ydays[i] + 1);
            due(x.town(0, 13 + 4 * i), NONE);
        }
    }

    void p46_inTheirOrder() {
        text("t0;", 1);
        due(x.set(0, 50, 500, 501), 1);
        points(50);
        due(x.set(0, 20, 200, 201), 2);
        points(20, 50);
        due(x.set(0, 80, 800, 801), 3);
        points(20, 50, 80);
        due(x.set(0, 51, 510, 511), 4);
        points(20, 50, 51, 80);
        due(x.set(0, 0, 0, 1), 5);
        due(x.set(0, 359, 3590, 3591), 6);
        points(0, 20, 50, 51, 80, 359);
    }

    void p46_aheadOfPolarOnes() {
        text("t0;x6,1;x8,0;", 3);
        due(x.set(0, 5, 1, 2), 3);
        due(x.town(0, 13), NONE);
        due(x.town(0, 14), 6);
        due(x.town(0, 15), NONE);
        due(x.town(0, 17), 1);
        due(x.town(0, 18), 8);
        due(x.town(0, 21), 0);
    }

    void p46_anotherOne() {
        text("t0;p5,1,2;p6,3,4;", 3);
        due(x.set(0, 5, 7, 9), 2);
        due(x.town(0, 11), 7);
        due(x.town(0, 12), 9);
        due(x.town(0, 15), 3);
    }

    void p46_inThePlaceOfAPolarOne() {
        text("t0;x5,1;", 2);
        due(x.set(0, 5, 7, 9), 1);
        due(x.town(0, 11), 7);
        due(x.town(0, 12), 9);
        due(x.town(0, 13), NONE);
        due(x.table(0, 5, 4), NONE);
        due(x.is(6), 0);
    }

    void p46_theSameOneIsADeed() {
        text("t0;p5,1,2;", 2);
        due(x.set(0, 5, 1, 2), 1);
        due(x.is(3), 2);
    }

    // ---- 47: remove ----

    private int remove(int[] a) {
        return x.remove(a[0], a[1]);
    }

    void p47_whichTown() {
        text("t0;x5,0;x6,0;t0;x5,0;t0;x5,0;t0;x5,0;", 9);
        bounds(this::remove, with(0, 5), 0, 0, 1, 3, 0, NONE);
        due(x.is(5), 3);
    }

    void p47_oneBehindTheLastTown() {
        text("t0;x5,0;", 2);
        refused(() -> x.remove(1, 5), NONE);
    }

    void p47_noTowns() {
        refused(() -> x.remove(0, 0), NONE);
    }

    void p47_yday() {
        text("t0;x0,0;x5,0;x359,0;", 4);
        bounds(this::remove, with(0, 5), 1, 0, 2, 359, 1, NONE);
        due(x.town(0, 10), 5);
    }

    void p47_noneSuch() {
        text("t0;x5,0;x7,0;", 3);
        refused(() -> x.remove(0, 4), NONE);
        refused(() -> x.remove(0, 6), NONE);
        refused(() -> x.remove(0, 8), NONE);
        refused(() -> x.remove(0, 365), NONE);
        due(x.remove(0, 5), 1);
        refused(() -> x.remove(0, 5), NONE);
    }

    void p47_noPoints() {
        text("t0;", 1);
        refused(() -> x.remove(0, 0), NONE);
        refused(() -> x.remove(0, NONE), NONE);
    }

    void p47_whatHasGoneCannotGoAgain() {
        text("t0;x5,0;x7,0;", 3);
        due(x.remove(0, 7), 1);
        refused(() -> x.remove(0, 7), NONE);
    }

    void p47_theLastPointLeavesTheTownDark() {
        text("t0;x5,1;", 2);
        due(x.table(0, 9, 4), 1);
        due(x.remove(0, 5), 0);
        due(x.table(0, 9, 4), 0);
        due(x.is(0), 1);
        due(x.is(5), 0);
        due(x.is(6), 0);
    }

    void p47_oneOfTwelve() {
        text("t0;" + TWELVE, 13);
        due(x.remove(0, 12), 11);
        due(x.remove(0, 1), 10);
        due(x.remove(0, 6), 9);
        int[] left = {2, 3, 4, 5, 7, 8, 9, 10, 11};
        for (int i = 0; i < left.length; i++) {
            due(x.town(0, 10 + 4 * i), left[i]);
            due(x.town(0, 11 + 4 * i), i < 2 ? NONE : 1);
            due(x.town(0, 12 + 4 * i), i < 2 ? NONE : 2);
            due(x.town(0, 13 + 4 * i), i == 0 ? 1 : i == 1 ? 0 : NONE);
        }
    }

    void p47_otherTownsKeepTheirs() {
        text("t0;x5,1;t0;x5,1;", 4);
        due(x.remove(0, 5), 0);
        due(x.town(1, 1), 1);
    }

    // ---- 48: undo ----

    private void undone(int left) {
        due(x.undo(), left);
        due(x.is(3), left);
    }

    void p48_none() {
        refused(() -> x.undo(), NONE);
    }

    void p48_noneAnyMore() {
        x.parts(7);
        undone(0);
        due(x.is(1), 60);
        refused(() -> x.undo(), NONE);
    }

    void p48_text() {
        text("t1;p5,1,2;", 2);
        text("p6,1,2;t2;", 2);
        undone(1);
        due(x.is(0), 1);
        due(x.town(0, 1), 1);
        undone(0);
        due(x.is(0), 0);
        due(x.town(0, 0), AWAY);
    }

    void p48_anEmptyText() {
        x.parts(7);
        text("", 0);
        undone(1);
        due(x.is(1), 7);
        undone(0);
        due(x.is(1), 60);
    }

    void p48_bells() {
        bells("d5*6?7<8;n1.2*3;", 2);
        bells("", 0);
        undone(1);
        due(x.is(2), 2);
        due(x.bell(0, 1), 5);
        due(x.bell(0, 4), 2);
        due(x.bell(1, 2), 2);
        undone(0);
        due(x.is(2), 0);
    }

    void p48_condsComeBack() {
        text(PLAIN, 2);
        bells("d1*1?1<2;d2*1?2<1;", 2);
        bells("d3*1?2<1;", 1);
        due(x.ring(0, 5, NONE, 0), 0);
        undone(2);
        due(x.ring(0, 5, NONE, 0), 1);
        due(x.ring(0, 5, 0, 0), 25200);
    }

    void p48_offset() {
        text("t1;", 1);
        x.offset(0, 2);
        undone(1);
        due(x.town(0, 0), 1);
    }

    void p48_parts() {
        x.parts(7);
        x.parts(8);
        undone(1);
        due(x.is(1), 7);
    }

    void p48_aNewPoint() {
        text("t1;p5,1,2;", 2);
        x.set(0, 2, 3, 4);
        undone(1);
        due(x.town(0, 1), 1);
        due(x.town(0, 10), 5);
    }

    void p48_anotherPoint() {
        text("t1;x5,1;", 2);
        x.set(0, 5, 3, 4);
        undone(1);
        due(x.town(0, 11), NONE);
        due(x.town(0, 13), 1);
        due(x.is(6), 1);
    }

    void p48_remove() {
        text("t1;p5,1,2;x6,1;p7,3,4;", 4);
        x.remove(0, 6);
        undone(1);
        due(x.town(0, 1), 3);
        due(x.town(0, 17), 1);
        due(x.town(0, 18), 7);
    }

    void p48_restore() {
        text("t1;", 1);
        x.keep(0);
        text("t2;", 1);
        x.parts(7);
        x.restore(0);
        undone(3);
        due(x.is(0), 2);
        due(x.is(1), 7);
        due(x.town(1, 0), 2);
    }

    void p48_eachActIsADeed() {
        text("t1;p5,1,2;", 2);
        acts("q7;o0,2;s0,6,1,2;r0,5;", 4);
        due(x.is(3), 5);
        undone(4);
        due(x.town(0, 1), 2);
        undone(3);
        due(x.town(0, 1), 1);
        undone(2);
        due(x.town(0, 0), 1);
        undone(1);
        due(x.is(1), 60);
        undone(0);
        due(x.is(0), 0);
    }

    void p48_theActsAheadOfTheRefusedOne() {
        acts("q7;q8;q0;q9;", 2);
        due(x.is(3), 2);
        undone(1);
        due(x.is(1), 7);
        undone(0);
        due(x.is(1), 60);
    }

    private void manyParts(int many) {
        for (int i = 1; i <= many; i++) {
            x.parts(i);
        }
    }

    void p48_twelve() {
        manyParts(12);
        for (int left = 11; left >= 0; left--) {
            undone(left);
            due(x.is(1), left == 0 ? 60 : left);
        }
        refused(() -> x.undo(), NONE);
    }

    void p48_theThirteenthForgetsTheFirst() {
        manyParts(13);
        due(x.is(3), 12);
        for (int left = 11; left >= 0; left--) {
            undone(left);
            due(x.is(1), left + 1);
        }
        refused(() -> x.undo(), NONE);
        due(x.is(1), 1);
    }

    void p48_thirtyActs() {
        StringBuilder thirty = new StringBuilder();
        for (int i = 1; i <= 30; i++) {
            thirty.append('q').append(i).append(';');
        }
        acts(thirty.toString(), 30);
        due(x.is(3), 12);
        for (int left = 11; left >= 0; left--) {
            undone(left);
        }
        due(x.is(1), 18);
        refused(() -> x.undo(), NONE);
    }

    void p48_someBackAndOthersDone() {
        manyParts(12);
        for (int i = 0; i < 5; i++) {
            x.undo();
        }
        due(x.is(1), 7);
        for (int i = 101; i <= 107; i++) {
            x.parts(i);
        }
        due(x.is(3), 12);
        for (int left = 11; left >= 6; left--) {
            undone(left);
            due(x.is(1), left + 95);
        }
        for (int left = 5; left >= 0; left--) {
            undone(left);
            due(x.is(1), left + 2);
        }
        refused(() -> x.undo(), NONE);
    }

    void p48_theDeedsAheadOfItStay() {
        text("t1;p5,6,7;", 2);
        x.parts(7);
        x.offset(0, 2);
        undone(2);
        due(x.is(1), 7);
        x.offset(0, 3);
        x.set(0, 5, 8, 9);
        undone(3);
        due(x.is(1), 7);
        due(x.town(0, 0), 3);
        x.set(0, 5, 8, 9);
        x.remove(0, 5);
        undone(4);
        due(x.town(0, 11), 8);
        bells("d1*1;", 1);
        undone(4);
        due(x.town(0, 11), 8);
        due(x.town(0, 0), 3);
        due(x.is(1), 7);
    }

    void p48_itselfIsNoDeed() {
        x.parts(7);
        x.parts(8);
        undone(1);
        undone(0);
        due(x.is(1), 60);
        refused(() -> x.undo(), NONE);
    }

    void p48_refusedCallsAreNoDeeds() {
        text("t1;" + TWELVE, 13);
        x.offset(0, 43201);
        x.offset(1, 0);
        x.parts(0);
        x.set(0, 13, 1, 2);
        x.set(0, 1, 2, 2);
        x.remove(0, 13);
        x.restore(0);
        wrongText("t1^");
        wrongBells("^t");
        wrongActs("q1^");
        acts("q0;", 0);
        acts("", 0);
        x.keep(0);
        x.keep(2);
        x.write(0);
        due(x.is(3), 1);
        undone(0);
        due(x.is(0), 0);
    }

    void p48_questionsAreNoDeeds() {
        text(PLAIN, 2);
        x.feed(1, 2, 3, 4, 5);
        x.end(3);
        x.season(0, 0);
        x.spare(0);
        x.soonest(0, 5, 0);
        x.meet(0, 0, 0, 5, 0);
        due(x.is(3), 1);
    }

    void p48_theTapeAndWhatWasToldStay() {
        text("t1;", 1);
        x.write(0);
        acts("q0;", 0);
        wrongText("t1^");
        x.feed(1, 2, 3, 4, 5);
        undone(0);
        due(x.is(4), 20);
        due(x.fault(), 2);
        due(x.ended(), 0);
        due(x.octet(1), '1');
    }

    // ---- 49: keep ----

    void p49_whichOne() {
        due(x.keep(0), true);
        due(x.keep(1), true);
        for (int k : new int[] {-1, 2, MIN, MAX}) {
            due(x.keep(k), false);
            due(x.restore(k), false);
        }
    }

    void p49_wrongOnesKeepNothing() {
        x.keep(-1);
        x.keep(2);
        due(x.restore(0), false);
        due(x.restore(1), false);
    }

    void p49_noDeed() {
        refused(() -> x.keep(0) ? 1 : 0, 1);
        due(x.is(3), 0);
    }

    void p49_twoAreTwo() {
        x.parts(7);
        x.keep(0);
        x.parts(8);
        x.keep(1);
        x.parts(9);
        due(x.restore(0), true);
        due(x.is(1), 7);
        due(x.restore(1), true);
        due(x.is(1), 8);
    }

    void p49_oneAlone() {
        x.keep(1);
        due(x.restore(0), false);
        due(x.restore(1), true);
    }

    void p49_theLatest() {
        x.parts(7);
        x.keep(0);
        x.parts(8);
        x.keep(0);
        x.parts(9);
        due(x.restore(0), true);
        due(x.is(1), 8);
    }

    void p49_aNewObjectToo() {
        x.keep(0);
        text("t1;p5,1,2;", 2);
        bells("d0*1;", 1);
        x.parts(7);
        due(x.restore(0), true);
        due(x.is(0), 0);
        due(x.is(1), 60);
        due(x.is(2), 0);
        due(x.is(5), 0);
    }

    void p49_fullOnesToo() {
        text("t0;" + TWELVE + "t0;" + TWELVE, 26);
        text("t0;" + TWELVE + "t43200;" + TWELVE, 26);
        bells(repeated("n11.3599*24?1+2+3+4<5;", 8), 8);
        x.parts(3600);
        x.keep(1);
        x.remove(3, 12);
        x.offset(3, 0);
        bells("", 0);
        x.parts(1);
        due(x.restore(1), true);
        due(x.is(0), 4);
        due(x.is(1), 3600);
        due(x.is(2), 8);
        due(x.is(5), 48);
        due(x.town(3, 0), 43200);
        due(x.town(3, 10 + 4 * 11 + 2), 2);
        due(x.bell(7, 2), 3599);
        due(x.bell(7, 4), 5);
    }

    void p49_laterChangesDoNotReachIt() {
        text("t1;p5,1,2;", 2);
        bells("d0*1;", 1);
        x.keep(0);
        x.set(0, 5, 3, 4);
        x.set(0, 6, 3, 4);
        x.offset(0, 9);
        text("t2;", 1);
        bells("n1*2;n3*4;", 2);
        x.undo();
        x.undo();
        due(x.restore(0), true);
        due(x.is(0), 1);
        due(x.is(2), 1);
        due(x.town(0, 0), 1);
        due(x.town(0, 1), 1);
        due(x.town(0, 11), 1);
        due(x.bell(0, 0), 0);
    }

    // ---- 50: restore ----

    void p50_nothingIsKept() {
        x.parts(7);
        refused(() -> x.restore(0) ? 1 : 0, 0);
        refused(() -> x.restore(1) ? 1 : 0, 0);
    }

    void p50_whichOne() {
        x.keep(0);
        x.keep(1);
        x.parts(7);
        for (int k : new int[] {-1, 2, MIN, MAX}) {
            refused(() -> x.restore(k) ? 1 : 0, 0);
        }
        due(x.restore(0), true);
        due(x.restore(1), true);
    }

    void p50_aDeed() {
        x.keep(0);
        x.parts(7);
        due(x.is(3), 1);
        due(x.restore(0), true);
        due(x.is(3), 2);
        due(x.is(1), 60);
        due(x.undo(), 1);
        due(x.is(1), 7);
    }

    void p50_aDeedThatChangesNothing() {
        x.keep(0);
        due(x.restore(0), true);
        due(x.is(3), 1);
        due(x.undo(), 0);
    }

    void p50_theThirteenthDeed() {
        x.keep(0);
        manyParts(12);
        due(x.restore(0), true);
        due(x.is(3), 12);
        for (int left = 11; left >= 0; left--) {
            undone(left);
            due(x.is(1), left + 1);
        }
        refused(() -> x.undo(), NONE);
    }

    void p50_deedsAreNotKept() {
        manyParts(5);
        x.keep(0);
        for (int i = 0; i < 5; i++) {
            x.undo();
        }
        due(x.is(3), 0);
        due(x.restore(0), true);
        due(x.is(3), 1);
        due(x.is(1), 5);
        undone(0);
        due(x.is(1), 60);
    }

    void p50_theTapeIsNotKept() {
        x.feed(1, 2, 3, 4, 5);
        x.keep(0);
        x.feed(1, 2, 3, 4, 5);
        due(x.restore(0), true);
        due(x.is(4), 40);
        x.end(0);
        due(x.restore(0), true);
        due(x.is(4), 0);
    }

    void p50_twice() {
        x.parts(7);
        x.keep(0);
        x.parts(8);
        due(x.restore(0), true);
        x.parts(9);
        due(x.restore(0), true);
        due(x.is(1), 7);
    }

    void p50_changesBehindItDoNotReachWhatIsKept() {
        text("t1;p5,1,2;", 2);
        x.keep(0);
        due(x.restore(0), true);
        x.set(0, 5, 3, 4);
        x.offset(0, 9);
        text("t2;", 1);
        due(x.restore(0), true);
        due(x.is(0), 1);
        due(x.town(0, 0), 1);
        due(x.town(0, 11), 1);
    }

    void p50_undoDoesNotReachWhatIsKept() {
        x.keep(0);
        x.parts(7);
        x.keep(1);
        x.undo();
        due(x.restore(1), true);
        due(x.is(1), 7);
        x.undo();
        due(x.is(1), 60);
        due(x.restore(1), true);
        due(x.is(1), 7);
    }

    void p50_whatWasToldStays() {
        text("t1;", 1);
        x.keep(0);
        x.write(0);
        acts("q7;q0;", 1);
        wrongText("t1^");
        due(x.restore(0), true);
        due(x.fault(), 2);
        due(x.ended(), 1);
        due(x.octet(1), '1');
    }

    void p50_aLaterTextGoesOnWithTheRestoredTown() {
        text("t1;p5,1,2;", 2);
        x.keep(0);
        text("p9,1,2;t2;", 2);
        due(x.restore(0), true);
        wrongText("p^5,1,2;");
        text("p6,1,2;", 1);
        due(x.town(0, 1), 2);
        due(x.town(0, 14), 6);
    }
}
