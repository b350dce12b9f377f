/** Boundaries of the text of BELLS and of what is told of one: promises 5, 20. */
final class EdgesOfBellTexts extends Cases {
    /** Each of its numbers is well at each of its digits. */
    private static final String WHOLE = "d10.3599*24?w+12*y-3/l<t&z=5|1>2;n1*1;";
    private static final String EIGHT = "d1*1;d2*1;d3*1;d4*1;n5*1;n6*1;n7*1;n8*1;";

    // ---- 5: bells ----

    void p05_anEmptyTape() {
        due(x.bells(), 0);
        due(x.fault(), NONE);
        due(x.is(3), 1);
    }

    void p05_anEmptyTextTakesThemAll() {
        bells(EIGHT, 8);
        bells("", 0);
        due(x.is(2), 0);
        due(x.bell(0, 0), NONE);
    }

    void p05_eightBells() {
        bells(EIGHT, 8);
        due(x.is(2), 8);
        due(x.bell(7, 1), 8);
    }

    void p05_aNinthBell() {
        wrongBells(EIGHT + "^d9*1;");
        wrongBells(EIGHT + "^n");
        wrongBells(EIGHT + "^d99999*1;");
    }

    void p05_aLaterTextBeginsAnew() {
        bells(EIGHT, 8);
        bells(EIGHT, 8);
        due(x.is(2), 8);
        bells("n11*2;", 1);
        due(x.is(2), 1);
        due(x.bell(0, 0), 1);
    }

    void p05_halves() {
        bells("d0*1;n0*1;", 2);
        due(x.bell(0, 0), 0);
        due(x.bell(1, 0), 1);
        wrongBells("^D0*1;");
        wrongBells("^e0*1;");
        wrongBells("^0*1;");
        wrongBells("^t0;");
    }

    void p05_hourFirst() {
        bells("d0*1;", 1);
        due(x.bell(0, 1), 0);
        wrongBells("d^-1*1;");
        wrongBells("d^-0*1;");
    }

    void p05_hourLast() {
        bells("n11*1;", 1);
        due(x.bell(0, 1), 11);
        wrongBells("d^12*1;");
        wrongBells("n^99999*1;");
    }

    void p05_partNotTold() {
        bells("d1*1;", 1);
        due(x.bell(0, 2), 0);
    }

    void p05_partFirst() {
        bells("d1.0*1;", 1);
        due(x.bell(0, 2), 0);
        wrongBells("d1.^-1*1;");
    }

    void p05_partLast() {
        bells("d1.3599*1;", 1);
        due(x.bell(0, 2), 3599);
        wrongBells("d1.^3600*1;");
    }

    void p05_partNeedNotBeBelowParts() {
        x.parts(1);
        bells("d1.1*1;", 1);
        due(x.bell(0, 2), 1);
    }

    void p05_strokesFirst() {
        bells("d1*1;", 1);
        due(x.bell(0, 3), 1);
        wrongBells("d1*^0;");
        wrongBells("d1*^-1;");
    }

    void p05_strokesLast() {
        bells("d1*24;", 1);
        due(x.bell(0, 3), 24);
        wrongBells("d1*^25;");
    }

    void p05_fiveDigits() {
        bells("d00011.00007*00005?00001<99999;", 1);
        due(x.bell(0, 1), 11);
        due(x.bell(0, 2), 7);
        due(x.bell(0, 3), 5);
        due(x.bell(0, 4), 2);
    }

    void p05_aSixthDigit() {
        wrongBells("d00001^1*1;");
        wrongBells("d1.00000^1*1;");
        wrongBells("d1*00000^1;");
        wrongBells("d1*1?00000^1<2;");
        wrongBells("d1*1?1<99999^9;");
    }

    void p05_noDigit() {
        wrongBells("d^*1;");
        wrongBells("d1.^*1;");
        wrongBells("d1*^;");
        wrongBells("d1*^?w<1;");
    }

    void p05_noStrokes() {
        wrongBells("d1^;");
        wrongBells("d1.5^;");
        wrongBells("d1^?w<1;");
    }

    void p05_nothingTwice() {
        wrongBells("d1.5^.5*1;");
        wrongBells("d1*1^*1;");
        wrongBells("d1*1?w<1^?w<1;");
        wrongBells("d1*1^.5;");
    }

    void p05_aNumberThatCannotBeAsItEnds() {
        wrongBells("d^12");
        wrongBells("d^12;");
        wrongBells("d1.^3600;");
        wrongBells("d1*^25");
        wrongBells("d1*^0?");
    }

    void p05_noCond() {
        wrongBells("d1*1?^;");
        wrongBells("d1*1?^&w<1;");
        wrongBells("d1*1?^|w<1;");
        wrongBells("d1*1?^<1;");
    }

    void p05_aSumIsNoTest() {
        wrongBells("d1*1?w^;");
        wrongBells("d1*1?w+1*y^;");
        wrongBells("d1*1?w^&w<1;");
        wrongBells("d1*1?w^|w<1;");
        wrongBells("d1*1?w<1&y^;");
        wrongBells("d1*1?w<1|y^&w<1;");
    }

    void p05_aTestHasTwoSides() {
        wrongBells("d1*1?w<^;");
        wrongBells("d1*1?w=1^=1;");
        wrongBells("d1*1?w<1^>1;");
        wrongBells("d1*1?w<^=1;");
    }

    void p05_nothingEndsWithASign() {
        wrongBells("d1*1?w+^;");
        wrongBells("d1*1?w<1-^;");
        wrongBells("d1*1?w<1*^;");
        wrongBells("d1*1?w<1/^;");
        wrongBells("d1*1?w<1&^;");
        wrongBells("d1*1?w<1|^;");
    }

    void p05_twoSignsAfterOneAnother() {
        wrongBells("d1*1?w+^-1<1;");
        wrongBells("d1*1?w*^/1<1;");
        wrongBells("d1*1?w<1&^&w<1;");
        wrongBells("d1*1?w<1|^|w<1;");
    }

    void p05_noMinusOfANumber() {
        wrongBells("d^-1*1;");
        wrongBells("d^-");
        wrongBells("d0.^-0*1;");
        wrongBells("d0.^-");
        wrongBells("d0*^-1;");
        wrongBells("d0*^-");
        wrongBells("d1*1?^-1<w;");
        wrongBells("d1*1?^-");
        wrongBells("d1*1?w<^-1;");
        wrongBells("d1*1?w<^-");
    }

    void p05_twoThingsAfterOneAnother() {
        wrongBells("d1*1?w^w<1;");
        wrongBells("d1*1?1^w<1;");
        wrongBells("d1*1?w^1<1;");
    }

    void p05_allThings() {
        bells("d1*1?w<y;d1*1?l<t;d1*1?z<1;", 3);
        wrongBells("d1*1?^d<1;");
        wrongBells("d1*1?^W<1;");
        wrongBells("d1*1?^(w)<1;");
    }

    void p05_fortyThings() {
        bells("d1*1?" + things(40) + ";", 1);
        due(x.bell(0, 4), 40);
    }

    void p05_aFortyFirstThing() {
        wrongBells("d1*1?" + marked(41) + ";");
        wrongBells("d1*1?1<" + repeated("w+", 39) + "^99999;");
        wrongBells("d1*1?1<" + repeated("w+", 39) + "^w");
    }

    void p05_fortyThingsOfAllBells() {
        bells("d1*1?" + things(20) + ";d2*1;d1*1?" + things(20) + ";", 3);
        due(x.bell(0, 4), 20);
        due(x.bell(2, 4), 20);
        wrongBells("d1*1?" + things(20) + ";d2*1;d1*1?" + things(20) + ";d3*1?^w<1;");
        wrongBells("d1*1?" + things(20) + ";d2*1;d1*1?" + marked(21) + ";");
    }

    void p05_fortyThingsOfEachText() {
        bells("d1*1?" + things(40) + ";", 1);
        bells("d1*1?" + things(40) + ";", 1);
        bells("d1*1;", 1);
        bells("d1*1?" + things(40) + ";", 1);
    }

    void p05_endsTooEarly() {
        endsTooEarly(WHOLE, UnequalHours::bells);
    }

    void p05_noBlanks() {
        goesOnWithNoOther(WHOLE, ' ', UnequalHours::bells);
        wrongBells("d1*1;^ ");
    }

    void p05_noByteOfNoSign() {
        goesOnWithNoOther(WHOLE, (char) 0, UnequalHours::bells);
        goesOnWithNoOther(WHOLE, (char) 255, UnequalHours::bells);
    }

    void p05_noBellWithoutItsHalf() {
        wrongBells("^;");
        wrongBells("d1*1;^;");
    }

    void p05_theLongestBells() {
        String whole = repeated("n00011.03599*00024?00001<00002+00003*00004-00005;", 8);
        bells(whole, 8);
        due(x.bell(7, 4), 5);
        wrongBells(whole + "^;");
    }

    void p05_townsAndPartsStay() {
        text("t1;p5,6,7;", 2);
        x.parts(7);
        x.offset(0, 2);
        x.set(0, 5, 8, 9);
        bells("d1*1;", 1);
        due(x.is(0), 1);
        due(x.is(1), 7);
        due(x.town(0, 0), 2);
        due(x.town(0, 11), 8);
    }

    void p05_whatAFaultyTextBeganDoesNotCome() {
        text("t1;", 1);
        wrongText("p5,6,7;t2;^;");
        bells("d1*1;", 1);
        due(x.is(0), 1);
        due(x.is(5), 0);
        wrongBells("n2*2;^;");
        text("t3;", 1);
        due(x.is(2), 1);
        due(x.bell(0, 1), 1);
    }

    void p05_theyStayByAFault() {
        bells("d1.2*3?w<1;n4*5;", 2);
        wrongBells("n9*9;d8*8?y<1;^;");
        due(x.bell(0, 2), 2);
        due(x.bell(0, 4), 2);
        due(x.bell(1, 1), 4);
    }

    void p05_aFaultIsNoDeed() {
        wrongBells("^;");
        due(x.is(3), 0);
        due(x.undo(), NONE);
    }

    void p05_theTapeIsEmptyBehindAFault() {
        wrongBells("d1^");
        due(x.end(1), NONE);
        due(x.bells(), 0);
    }

    // ---- 20: bell ----

    void p20_whichBell() {
        bells(EIGHT, 8);
        bounds(a -> x.bell(a[0], a[1]), with(0, 1), 0, 0, 1, 7, 8, NONE);
    }

    void p20_oneBehindTheLast() {
        bells("d1*1;", 1);
        due(x.bell(0, 0), 0);
        due(x.bell(1, 0), NONE);
    }

    void p20_none() {
        due(x.bell(0, 0), NONE);
        due(x.bell(-1, 0), NONE);
    }

    void p20_what() {
        bells("n11.3599*24?w<1&2>3;", 1);
        bounds(a -> x.bell(a[0], a[1]), with(0, 0), 1, 0, 1, 4, 4, NONE);
        due(x.bell(0, 1), 11);
        due(x.bell(0, 2), 3599);
        due(x.bell(0, 3), 24);
    }

    void p20_noThings() {
        bells("d1*1?w<1;d1*1;d1*1?1<2+3;", 3);
        due(x.bell(0, 4), 2);
        due(x.bell(1, 4), 0);
        due(x.bell(2, 4), 3);
    }

    void p20_numbersAreThingsToo() {
        bells("d1*1?12345<99999*w/7;", 1);
        due(x.bell(0, 4), 4);
    }

    /** A TEST of so many THINGS. */
    private static String things(int many) {
        return "1<" + repeated("w+", many - 2) + "w";
    }

    private static String marked(int many) {
        return "1<" + repeated("w+", many - 2) + "^w";
    }
}
