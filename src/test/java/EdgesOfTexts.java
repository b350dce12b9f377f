/** Boundaries of a new object, the tape, THE TEXT, what is written: promises 1 to 4, 7, 51, 52. */
final class EdgesOfTexts extends Cases {
    /** Each of its numbers is well at each of its digits, so that it ends too early everywhere. */
    private static final String WHOLE = "t-1;p0,1,22;x15,1;t20;";
    private static final String TWELVE = "x1,0;x2,1;x3,0;p4,1,2;p5,1,2;p6,1,2;p7,1,2;p8,1,2;"
        + "p9,1,2;p10,1,2;p11,1,2;p12,1,2;";

    // ---- 1: a new object ----

    void p01_noTowns() {
        due(x.is(0), 0);
        due(x.is(5), 0);
        due(x.is(6), 0);
        due(x.town(0, 0), AWAY);
    }

    void p01_sixtyParts() {
        due(x.is(1), 60);
    }

    void p01_noBells() {
        due(x.is(2), 0);
        due(x.bell(0, 0), NONE);
    }

    void p01_noDeeds() {
        due(x.is(3), 0);
        due(x.undo(), NONE);
    }

    void p01_emptyTape() {
        due(x.is(4), 0);
        due(x.end(1), NONE);
    }

    void p01_nothingKept() {
        due(x.restore(0), false);
        due(x.restore(1), false);
    }

    void p01_nothingWritten() {
        due(x.octet(0), NONE);
    }

    void p01_noFaultNoEnd() {
        due(x.fault(), NONE);
        due(x.ended(), NONE);
    }

    void p01_anotherObjectIsItsOwn() {
        text(PLAIN, 2);
        bells("d1*1;", 1);
        x.parts(7);
        x.keep(0);
        x.write(0);
        x.feed(1, 2, 3, 4, 5);
        UnequalHours y = new UnequalHours();
        due(y.is(0), 0);
        due(y.is(1), 60);
        due(y.is(2), 0);
        due(y.is(3), 0);
        due(y.is(4), 0);
        due(y.restore(0), false);
        due(y.octet(0), NONE);
    }

    void p01_theLastOfFiveHundredAndTwelveCalls() {
        // Four calls: end(), feed(), end(), text().
        Checks.put(x, PLAIN);
        due(x.text(), 2);
        for (int call = 5; call < 512; call++) {
            due(x.parts(call), call == 5 ? 60 : call - 1);
        }
        due(x.turn(0, 5, 64799, 4), 12 * 511 - 1);
    }

    // ---- 2: feed ----

    void p02_highestByteFirst() {
        due(x.feed(0x7431323B, 0, 0, 0, 0), 20);
        x.end(4);
        due(x.text(), 1);
        due(x.town(0, 0), 12);
    }

    void p02_numbersInTheirOrder() {
        // t1;t -2;p 0,1, 22;x 9,1;
        due(x.feed(0x74313B74, 0x2D323B70, 0x302C312C, 0x32323B78, 0x392C313B), 20);
        due(x.text(), 4);
        due(x.town(0, 0), 1);
        due(x.town(1, 0), -2);
        due(x.town(1, 12), 22);
        due(x.town(1, 17), 1);
    }

    void p02_aSecondFeedComesBehind() {
        x.feed(0x74313B74, 0x2D323B70, 0x302C312C, 0x32323B78, 0x392C313B);
        due(x.feed(0x74333B74, 0x2D323B70, 0x302C312C, 0x32323B78, 0x392C313B), 40);
        due(x.text(), 8);
        due(x.town(2, 0), 3);
    }

    void p02_bytesAbove127() {
        x.feed(0xF4313B00, 0, 0, 0, 0);
        x.end(3);
        due(x.text(), NONE);
        due(x.fault(), 0);
        x.feed(0x7431BB00, 0, 0, 0, 0);
        x.end(3);
        due(x.text(), NONE);
        due(x.fault(), 2);
    }

    void p02_anyNumbers() {
        due(x.feed(MIN, MAX, -1, 0, 1), 20);
        due(x.is(4), 20);
    }

    void p02_fiveHundredBytes() {
        for (int i = 1; i <= 25; i++) {
            due(x.feed(i, i, i, i, i), 20 * i);
        }
    }

    void p02_noneComeAboveFiveHundred() {
        Checks.put(x, repeated("t", 500));
        refused(() -> x.feed(1, 2, 3, 4, 5), NONE);
        due(x.is(4), 500);
    }

    void p02_noneComeIfSomeWouldNotFit() {
        Checks.put(x, repeated("t", 481));
        refused(() -> x.feed(1, 2, 3, 4, 5), NONE);
        due(x.end(482), NONE);
        due(x.end(480), 480);
        due(x.feed(1, 2, 3, 4, 5), 500);
    }

    void p02_whatWasThereStays() {
        String whole = whole500();
        Checks.put(x, whole);
        refused(() -> x.feed(1, 2, 3, 4, 5), NONE);
        due(x.text(), 29);
        due(x.is(5), 26);
    }

    // ---- 3: end ----

    void p03_noByte() {
        x.feed(1, 2, 3, 4, 5);
        due(x.end(0), 0);
        due(x.is(4), 0);
    }

    void p03_allBytes() {
        x.feed(1, 2, 3, 4, 5);
        due(x.end(20), 20);
        due(x.is(4), 20);
    }

    void p03_oneMoreThanThereAre() {
        x.feed(1, 2, 3, 4, 5);
        refused(() -> x.end(21), NONE);
        refused(() -> x.end(MAX), NONE);
    }

    void p03_below0() {
        x.feed(1, 2, 3, 4, 5);
        refused(() -> x.end(-1), NONE);
        refused(() -> x.end(MIN), NONE);
    }

    void p03_anEmptyTape() {
        due(x.end(0), 0);
        refused(() -> x.end(1), NONE);
    }

    void p03_aFullTape() {
        Checks.put(x, repeated("t", 500));
        due(x.end(500), 500);
        refused(() -> x.end(501), NONE);
        due(x.end(499), 499);
    }

    void p03_whatWasCutDoesNotComeBack() {
        Checks.put(x, "t1;t2;");
        due(x.end(3), 3);
        refused(() -> x.end(6), NONE);
        due(x.text(), 1);
    }

    void p03_whatWasCutIsNotRead() {
        Checks.put(x, "t1;t2;");
        x.end(5);
        due(x.text(), NONE);
        due(x.fault(), 5);
        Checks.put(x, "t12;");
        x.end(3);
        due(x.text(), NONE);
        due(x.fault(), 3);
        Checks.put(x, "t1;t2;");
        x.end(0);
        due(x.text(), 0);
    }

    void p03_theNextBytesComeBehindTheCut() {
        Checks.put(x, "t1;t2;");
        x.end(3);
        due(x.feed(0x74333B00, 0, 0, 0, 0), 23);
        x.end(6);
        due(x.text(), 2);
        due(x.town(1, 0), 3);
    }

    // ---- 4: text ----

    void p04_anEmptyTape() {
        due(x.text(), 0);
        due(x.fault(), NONE);
        due(x.is(3), 1);
    }

    void p04_oneItem() {
        text("t0;", 1);
        due(x.is(0), 1);
    }

    void p04_theLongestTape() {
        text(whole500(), 29);
        due(x.is(0), 3);
    }

    void p04_fourTowns() {
        text("t1;t2;t3;t4;", 4);
        due(x.town(3, 0), 4);
    }

    void p04_aFifthTown() {
        wrongText("t1;t2;t3;t4;^t5;");
        wrongText("t1;t2;t3;t4;^t");
        wrongText("t1;t2;t3;t4;^t99999;");
    }

    void p04_aFifthTownOfALaterText() {
        text("t1;t2;t3;t4;", 4);
        wrongText("^t5;");
        text("p0,1,2;", 1);
        due(x.town(3, 1), 1);
    }

    void p04_twelvePoints() {
        text("t0;" + TWELVE, 13);
        due(x.town(0, 1), 12);
        due(x.is(5), 12);
        due(x.is(6), 3);
    }

    void p04_aThirteenthPoint() {
        wrongText("t0;" + TWELVE + "^p13,1,2;");
        wrongText("t0;" + TWELVE + "^x13,1;");
        wrongText("t0;" + TWELVE + "^x1,1;");
        wrongText("t0;" + TWELVE + "^p");
    }

    void p04_aThirteenthPointOfALaterText() {
        text("t0;" + TWELVE, 13);
        wrongText("^p13,1,2;");
        wrongText("^x13,1;");
    }

    void p04_twelvePointsOfEachTown() {
        text("t0;" + TWELVE + "t0;" + TWELVE, 26);
        text("t0;" + TWELVE + "t0;" + TWELVE, 26);
        due(x.is(5), 48);
        due(x.is(6), 12);
        wrongText("^x13,1;");
        wrongText("^t0;");
    }

    void p04_aPointWithoutATown() {
        wrongText("^p0,1,2;");
        wrongText("^x0,1;");
        wrongText("^p");
    }

    void p04_aPointOfTheLatestTownOfAnEarlierText() {
        text("t1;t2;p5,1,2;", 3);
        text("x6,1;", 1);
        due(x.town(0, 1), 0);
        due(x.town(1, 1), 2);
        due(x.town(1, 17), 1);
    }

    void p04_offsetFarthestBehind() {
        text("t-43200;", 1);
        due(x.town(0, 0), -43200);
        wrongText("t^-43201;");
    }

    void p04_offsetFarthestAhead() {
        text("t43200;", 1);
        due(x.town(0, 0), 43200);
        wrongText("t^43201;");
        wrongText("t^99999;");
    }

    void p04_ydayFirst() {
        text("t0;p0,1,2;t0;x0,1;", 4);
        due(x.town(0, 10), 0);
        due(x.town(1, 10), 0);
        wrongText("p^-1,1,2;");
        wrongText("t0;x^-1,1;");
    }

    void p04_ydayLast() {
        text("t0;p359,1,2;t0;x359,1;", 4);
        due(x.town(0, 10), 359);
        due(x.town(1, 10), 359);
        wrongText("t0;p^360,1,2;");
        wrongText("t0;x^360,1;");
    }

    void p04_ydayAboveTheOneAhead() {
        text("t0;p5,1,2;x6,1;p7,1,2;", 4);
        wrongText("p^7,1,2;");
        wrongText("x^7,1;");
        wrongText("p^6,1,2;");
        wrongText("t0;x5,1;x^5,1;");
        text("x8,1;", 1);
    }

    void p04_noYdayIsAbove359() {
        text("t0;x359,1;", 2);
        wrongText("p^359,1,2;");
        wrongText("p^360,1,2;");
    }

    void p04_ydayAboveTheLatestPointThatIsThereNow() {
        text("t0;p5,1,2;p9,1,2;", 3);
        x.set(0, 20, 1, 2);
        wrongText("p^20,1,2;");
        x.remove(0, 20);
        x.remove(0, 9);
        text("p6,1,2;", 1);
        due(x.town(0, 14), 6);
    }

    void p04_eachTownsYdaysAreItsOwn() {
        text("t0;p300,1,2;t0;p0,1,2;", 4);
        due(x.town(1, 10), 0);
    }

    void p04_dawnFirst() {
        text("t0;p0,0,1;", 2);
        due(x.town(0, 11), 0);
        wrongText("p1,^-1,1;");
    }

    void p04_dawnLast() {
        text("t0;p0,86398,86399;", 2);
        due(x.town(0, 11), 86398);
        wrongText("p1,^86400,86401;");
    }

    void p04_noDuskIsAboveTheLastSecond() {
        wrongText("t0;p0,86399,^86399;");
        wrongText("t0;p0,86399,^86400;");
    }

    void p04_duskAboveDawn() {
        text("t0;p0,7,8;", 2);
        due(x.town(0, 12), 8);
        wrongText("p1,7,^7;");
        wrongText("p1,7,^6;");
        wrongText("p1,0,^0;");
        wrongText("p1,0,^-1;");
    }

    void p04_duskLast() {
        text("t0;p0,7,86399;", 2);
        due(x.town(0, 12), 86399);
        wrongText("p1,7,^86400;");
    }

    void p04_kinds() {
        text("t0;x0,0;x1,1;", 3);
        due(x.town(0, 13), 0);
        due(x.town(0, 17), 1);
        wrongText("x2,^2;");
        wrongText("x2,^-1;");
    }

    void p04_fiveDigits() {
        text("t00001;p00002,00003,00004;x00005,00001;", 3);
        due(x.town(0, 0), 1);
        due(x.town(0, 10), 2);
        due(x.town(0, 11), 3);
        due(x.town(0, 12), 4);
        due(x.town(0, 17), 1);
        text("t-00001;", 1);
        due(x.town(1, 0), -1);
    }

    void p04_aSixthDigit() {
        wrongText("t00000^1;");
        wrongText("t-00000^1;");
        wrongText("t99999^9;");
        wrongText("t0;p00000^0,1,2;");
        wrongText("t0;p0,00000^1,2;");
        wrongText("t0;p0,1,00000^2;");
        wrongText("t0;x00000^0,1;");
        wrongText("t0;x0,00000^1;");
    }

    void p04_noDigit() {
        wrongText("t^;");
        wrongText("t0;p^,1,2;");
        wrongText("t0;p0,^,2;");
        wrongText("t0;p0,1,^;");
        wrongText("t0;x^,1;");
        wrongText("t0;x0,^;");
    }

    void p04_aMinusAlone() {
        wrongText("t-^;");
        wrongText("t-^-1;");
        wrongText("t1^-;");
        wrongText("t0;p-^,1,2;");
        wrongText("t0;p0,-^,2;");
        wrongText("t0;p0,1,-^;");
        wrongText("t0;x0,-^;");
    }

    void p04_noPlus() {
        wrongText("t^+1;");
    }

    void p04_tooFewNumbers() {
        wrongText("t0;p0^;");
        wrongText("t0;p0,1^;");
        wrongText("t0;x0^;");
    }

    void p04_tooManyNumbers() {
        wrongText("t0^,1;");
        wrongText("t0;p0,1,2^,3;");
        wrongText("t0;x0,1^,2;");
    }

    void p04_aNumberThatCannotBeAsItEnds() {
        wrongText("t^43201,");
        wrongText("t^43201");
        wrongText("t43201^9;");
        wrongText("t0;p^360;");
        wrongText("t0;p0,^86400;");
        wrongText("t0;p0,5,^5,");
        wrongText("t0;x0,^2,");
    }

    void p04_endsTooEarly() {
        endsTooEarly(WHOLE, UnequalHours::text);
    }

    void p04_noBlanks() {
        goesOnWithNoOther(WHOLE, ' ', UnequalHours::text);
        wrongText("^ t0;");
        wrongText("t0;^ ");
        wrongText("t0;^\n");
    }

    void p04_noByteOfNoSign() {
        goesOnWithNoOther(WHOLE, (char) 0, UnequalHours::text);
        goesOnWithNoOther(WHOLE, (char) 255, UnequalHours::text);
    }

    void p04_lettersAsTold() {
        wrongText("^T0;");
        wrongText("^q1;");
        wrongText("t0;^P0,1,2;");
        wrongText("t0;^X0,1;");
        wrongText("^0;");
    }

    void p04_noItemWithoutALetter() {
        wrongText("^;");
        wrongText("t0;^;");
    }

    void p04_allComesOrNothing() {
        text("t1;p5,1,2;", 2);
        wrongText("p6,1,2;t2;x0,1;^;");
        due(x.town(0, 1), 1);
        due(x.is(0), 1);
        text("p6,1,2;", 1);
    }

    void p04_aFaultIsNoDeed() {
        wrongText("^;");
        due(x.undo(), NONE);
    }

    void p04_theTapeIsEmptyBehindAFault() {
        wrongText("t1^");
        due(x.end(1), NONE);
        due(x.text(), 0);
    }

    // ---- 7: fault ----

    void p07_aheadOfAny() {
        due(x.fault(), NONE);
    }

    void p07_theFirstByte() {
        wrongText("^;");
        due(x.fault(), 0);
    }

    void p07_behindTheLongestTape() {
        wrongText(whole500().substring(0, 488) + "p1,001,00002^");
    }

    void p07_wellTakesItAway() {
        wrongText("t1^");
        text("", 0);
        due(x.fault(), NONE);
    }

    void p07_theLatestOfTheThree() {
        wrongText("t1^");
        wrongBells("d1*^");
        due(x.fault(), 3);
        wrongActs("^z");
        due(x.fault(), 0);
        bells("", 0);
        due(x.fault(), NONE);
        wrongText("t1^");
        acts("", 0);
        due(x.fault(), NONE);
    }

    void p07_otherCallsLeaveIt() {
        wrongText("t1^");
        x.feed(1, 2, 3, 4, 5);
        x.end(0);
        x.parts(7);
        x.parts(0);
        x.write(0);
        due(x.fault(), 2);
    }

    void p07_actsThatEndAreWell() {
        wrongText("t1^");
        acts("q0;", 0);
        due(x.fault(), NONE);
    }

    // ---- 51: write ----

    void p51_noSuchTown() {
        refused(() -> x.write(0), NONE);
        text("t1;t2;", 2);
        x.write(1);
        refused(() -> x.write(2), NONE);
        refused(() -> x.write(-1), NONE);
        refused(() -> x.write(MIN), NONE);
        refused(() -> x.write(MAX), NONE);
        written("t2;");
    }

    void p51_aTownWithoutPoints() {
        text("t0;", 1);
        due(x.write(0), 3);
        written("t0;");
    }

    void p51_offsetFarthestBehind() {
        text("t-43200;", 1);
        due(x.write(0), 8);
        written("t-43200;");
    }

    void p51_offsetsBesideNothing() {
        text("t-1;t-0;t1;", 3);
        due(x.write(0), 4);
        written("t-1;");
        due(x.write(1), 3);
        written("t0;");
        due(x.write(2), 3);
        written("t1;");
    }

    void p51_lengthsOfNumbers() {
        text("t-7;p0,9,10;p9,99,100;p10,999,1000;p99,9999,10000;x100,0;x359,1;", 7);
        x.write(0);
        written("t-7;p0,9,10;p9,99,100;p10,999,1000;p99,9999,10000;x100,0;x359,1;");
    }

    void p51_numbersWithoutNeedlessZeros() {
        text("t00050;p00003,00000,00010;", 2);
        due(x.write(0), 12);
        written("t50;p3,0,10;");
    }

    void p51_theLongestTown() {
        StringBuilder longest = new StringBuilder("t-43200;");
        for (int yday = 348; yday < 360; yday++) {
            longest.append('p').append(yday).append(",86398,86399;");
        }
        text(longest.toString(), 13);
        due(x.write(0), 8 + 12 * 17);
        written(longest.toString());
    }

    void p51_oneTownAlone() {
        text("t1;x0,1;t2;x1,0;t3;", 5);
        due(x.write(1), 8);
        written("t2;x1,0;");
    }

    void p51_asItIsNow() {
        text("t1;x5,1;", 2);
        x.set(0, 2, 3, 4);
        x.set(0, 5, 6, 7);
        x.offset(0, 0);
        due(x.write(0), 17);
        written("t0;p2,3,4;p5,6,7;");
    }

    void p51_theTapeAndTheDeedsStay() {
        text("t1;", 1);
        x.feed(1, 2, 3, 4, 5);
        due(x.write(0), 3);
        due(x.is(4), 20);
        due(x.is(3), 1);
    }

    // ---- 52: octet ----

    void p52_firstAndLast() {
        text("t12;", 1);
        x.write(0);
        due(x.octet(0), 't');
        due(x.octet(3), ';');
    }

    void p52_outside() {
        text("t12;", 1);
        x.write(0);
        due(x.octet(4), NONE);
        due(x.octet(-1), NONE);
        due(x.octet(MIN), NONE);
        due(x.octet(MAX), NONE);
    }

    void p52_aheadOfAny() {
        text("t12;", 1);
        due(x.octet(0), NONE);
    }

    void p52_aShorterOneBehindALongerOne() {
        text("t1;x0,1;t2;", 3);
        x.write(0);
        x.write(1);
        due(x.octet(1), '2');
        due(x.octet(3), NONE);
    }

    void p52_aRefusedWriteLeavesIt() {
        text("t12;", 1);
        x.write(0);
        due(x.write(1), NONE);
        due(x.octet(1), '1');
    }

    void p52_whatWasWrittenDoesNotChangeWithTheTown() {
        text("t12;", 1);
        x.write(0);
        x.offset(0, 7);
        written("t12;");
    }

    private void written(String want) {
        for (int k = 0; k < want.length(); k++) {
            due(x.octet(k), want.charAt(k));
        }
        due(x.octet(want.length()), NONE);
    }

    /** A well text of 500 bytes: three TOWNS, 26 POINTS. */
    private static String whole500() {
        StringBuilder whole = new StringBuilder();
        for (int town = 0; town < 2; town++) {
            whole.append("t-43200;");
            for (int yday = 10; yday < 22; yday++) {
                whole.append("p000").append(yday).append(",00000,00001;");
            }
        }
        whole.append("t-1;p0,01,00002;p1,01,00002;");
        return whole.toString();
    }
}
