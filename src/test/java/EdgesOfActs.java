/** Boundaries of the text of ACTS and of doing them: promises 6, 8. */
final class EdgesOfActs extends Cases {
    /** Each of its numbers is well at each of its digits. */
    private static final String WHOLE = "q-12;o0,-34;r56,-7;s1,-23,456,-7890;";

    // ---- 6: acts ----

    void p06_anEmptyTape() {
        due(x.acts(), 0);
        due(x.fault(), NONE);
        due(x.is(3), 0);
    }

    void p06_eachActIsADeed() {
        text(PLAIN, 2);
        acts("q7;o0,5;s0,1,2,3;r0,0;", 4);
        due(x.is(3), 5);
        due(x.is(1), 7);
        due(x.town(0, 0), 5);
        due(x.town(0, 1), 1);
        due(x.town(0, 11), 2);
        due(x.undo(), 4);
        due(x.town(0, 1), 2);
        due(x.undo(), 3);
        due(x.undo(), 2);
        due(x.undo(), 1);
        due(x.is(1), 60);
    }

    void p06_thirtyActs() {
        acts(repeated("q7;", 29) + "q8;", 30);
        due(x.is(1), 8);
        due(x.is(3), 12);
    }

    void p06_aThirtyFirstAct() {
        wrongActs(repeated("q7;", 30) + "^q8;");
        wrongActs(repeated("q7;", 30) + "^q");
        wrongActs(repeated("q7;", 30) + "^z");
        due(x.is(1), 60);
    }

    void p06_theLongestTape() {
        text(PLAIN, 2);
        // 17 ACTS of 25 bytes, 12 of 6 bytes, one of 3: 500 bytes.
        String whole = repeated("s00000,00001,00002,00003;", 17) + repeated("q0007;", 12) + "q8;";
        due(whole.length(), 500);
        acts(whole, 30);
        due(x.is(1), 8);
    }

    void p06_anyNumbersAreWell() {
        acts("q99999;", 0);
        acts("q-99999;", 0);
        acts("o99999,-99999;", 0);
        acts("r-99999,99999;", 0);
        acts("s99999,-99999,99999,-99999;", 0);
        due(x.is(3), 0);
    }

    void p06_fiveDigits() {
        text(PLAIN, 2);
        acts("q00007;o00000,-00005;s00000,00001,00002,00003;r00000,00001;", 4);
        due(x.is(1), 7);
        due(x.town(0, 0), -5);
    }

    void p06_aSixthDigit() {
        wrongActs("q00000^7;");
        wrongActs("q-99999^9;");
        wrongActs("o00000^0,1;");
        wrongActs("o0,00000^1;");
        wrongActs("r0,00000^1;");
        wrongActs("s0,1,2,00000^3;");
    }

    void p06_noDigit() {
        wrongActs("q^;");
        wrongActs("q-^;");
        wrongActs("q-^-1;");
        wrongActs("q^+1;");
        wrongActs("o^,1;");
        wrongActs("o0,^;");
        wrongActs("s0,^,1,2;");
    }

    void p06_tooFewNumbers() {
        wrongActs("o0^;");
        wrongActs("r0^;");
        wrongActs("s0^;");
        wrongActs("s0,1^;");
        wrongActs("s0,1,2^;");
    }

    void p06_tooManyNumbers() {
        wrongActs("q1^,2;");
        wrongActs("o0,1^,2;");
        wrongActs("r0,1^,2;");
        wrongActs("s0,1,2,3^,4;");
    }

    void p06_otherLetters() {
        wrongActs("^t0;");
        wrongActs("^Q1;");
        wrongActs("^u;");
        wrongActs("^1;");
        wrongActs("^;");
        wrongActs("q1;^;");
    }

    void p06_endsTooEarly() {
        endsTooEarly(WHOLE, UnequalHours::acts);
    }

    void p06_noBlanks() {
        goesOnWithNoOther(WHOLE, ' ', UnequalHours::acts);
        wrongActs("q1;^ ");
    }

    void p06_noByteOfNoSign() {
        goesOnWithNoOther(WHOLE, (char) 0, UnequalHours::acts);
        goesOnWithNoOther(WHOLE, (char) 255, UnequalHours::acts);
    }

    void p06_nothingIsDoneByAFault() {
        text(PLAIN, 2);
        wrongActs("q7;o0,5;s0,1,2,3;r0,0;^;");
        wrongActs("q7;q8^");
        due(x.is(1), 60);
    }

    void p06_theTapeIsEmptyBehindAFault() {
        wrongActs("q7^");
        due(x.end(1), NONE);
        due(x.acts(), 0);
    }

    void p06_theFirstIsRefused() {
        acts("q0;q7;", 0);
        due(x.is(1), 60);
        due(x.is(3), 0);
    }

    void p06_theLastIsRefused() {
        acts("q7;q8;q0;", 2);
        due(x.is(1), 8);
        due(x.is(3), 2);
    }

    void p06_noneIsDoneBehindARefusedOne() {
        acts("q7;q3601;q8;q9;", 1);
        due(x.is(1), 7);
    }

    void p06_eachIsRefusedAsItsCallIs() {
        text("t0;", 1);
        acts("o0,43201;", 0);
        acts("o0,-43201;", 0);
        acts("o1,0;", 0);
        acts("o-1,0;", 0);
        acts("q3601;", 0);
        acts("r0,0;", 0);
        acts("r1,0;", 0);
        acts("s1,0,1,2;", 0);
        acts("s0,360,1,2;", 0);
        acts("s0,0,2,2;", 0);
        acts("s0,0,2,86400;", 0);
        acts("s0,0,-1,2;", 0);
        due(x.is(3), 1);
    }

    void p06_theLeastThatIsDone() {
        text("t0;", 1);
        acts("o0,-43200;o0,43200;q1;q3600;s0,0,0,1;s0,359,86398,86399;r0,359;r0,0;", 8);
        due(x.is(3), 9);
    }

    void p06_anActSeesTheOnesAhead() {
        text("t0;", 1);
        acts("s0,5,1,2;r0,5;r0,5;", 2);
        due(x.ended(), 2);
    }

    void p06_offsetThatWasMinusOneIsNoRefusal() {
        text("t-1;", 1);
        acts("o0,-2;o0,-3;", 2);
        due(x.town(0, 0), -3);
    }

    // ---- 8: ended ----

    void p08_aheadOfAny() {
        due(x.ended(), NONE);
    }

    void p08_theFirst() {
        acts("q0;", 0);
        due(x.ended(), 0);
    }

    void p08_theLastOfThirty() {
        acts(repeated("q7;", 29) + "q0;", 29);
        due(x.ended(), 29);
    }

    void p08_noneDid() {
        acts("q0;", 0);
        acts("q7;", 1);
        due(x.ended(), NONE);
    }

    void p08_anEmptyTextOfActs() {
        acts("q0;", 0);
        acts("", 0);
        due(x.ended(), NONE);
    }

    void p08_aFaultLeavesIt() {
        acts("q7;q0;", 1);
        wrongActs("q7^");
        due(x.ended(), 1);
    }

    void p08_theOtherTextsLeaveIt() {
        acts("q7;q0;", 1);
        text("t0;", 1);
        bells("d1*1;", 1);
        wrongText("t^");
        due(x.ended(), 1);
    }
}
