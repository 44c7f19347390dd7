/** The boundary cases that promises 17 to 22 and their terms name: best, buys, voids, ruin, tells, parts. */
public final class Boundaries17To22Test {
    private static final int UNKNOWN = Scene.UNKNOWN, OUTSIDE = Scene.OUTSIDE, MIN = Scene.MIN, MAX = Scene.MAX;
    private static final long LOST = AdmiralGuinea.LOST;
    private static final long WHOLE = 1000000000000000000L;

    public static void main(String[] args) {
        Named.run(Boundaries17To22Test.class, 17, 22);
    }

    // ---- 17 best

    private static void bestIs(Check check, AdmiralGuinea x, int offers, int knows, int t, long upper, long lower) {
        check.fraction("best of " + offers + ", " + knows + ", " + t, x.best(0, offers, knows, t, 0),
                x.best(0, offers, knows, t, 1), upper, lower);
    }

    static void promise17_noBuyerBelow0OrAbove3(Check check) {
        AdmiralGuinea x = Scene.busy();
        Scene.refused(check, x, LOST + UNKNOWN, () -> x.best(-1, 0, 0, 1, 0), () -> x.best(4, 0, 0, 1, 1),
                () -> x.best(MIN, 0, 0, 1, 0), () -> x.best(MAX, 0, 0, 1, 1));
        check.due("the last buyer", x.best(3, 0, 0, 1, 1), 1);
    }

    static void promise17_offers0To999999(Check check) {
        AdmiralGuinea x = Scene.busy();
        Scene.refused(check, x, LOST + OUTSIDE, () -> x.best(0, -1, 0, 1, 0), () -> x.best(0, 1000000, 0, 1, 0),
                () -> x.best(0, MIN, 0, 1, 1), () -> x.best(0, MAX, 0, 1, 1));
        bestIs(check, x, 0, 999999, 9, 0, 1);
        bestIs(check, x, 999999, 0, 1, 0, 1);
    }

    static void promise17_oddsThatHeKnows0To999999(Check check) {
        AdmiralGuinea x = Scene.busy();
        Scene.refused(check, x, LOST + OUTSIDE, () -> x.best(0, 0, -1, 1, 0), () -> x.best(0, 0, 1000000, 1, 0),
                () -> x.best(0, 0, MIN, 1, 1), () -> x.best(0, 0, MAX, 1, 1));
        AdmiralGuinea y = Scene.rich();
        bestIs(check, y, 111111, 999999, 1, 48, 1);
    }

    static void promise17_months1To9(Check check) {
        AdmiralGuinea x = Scene.busy();
        Scene.refused(check, x, LOST + OUTSIDE, () -> x.best(0, 0, 0, 0, 0), () -> x.best(0, 0, 0, 10, 0),
                () -> x.best(0, 0, 0, MIN, 1), () -> x.best(0, 0, 0, MAX, 1));
        AdmiralGuinea y = new AdmiralGuinea();
        bestIs(check, y, 100000, 200000, 1, 1, 1);
        // 10 times 999999999 of 10^9, less 7
        bestIs(check, y, 100000, 900000, 9, 299999999L, 100000000L);
    }

    static void promise17_partIs0Or1(Check check) {
        AdmiralGuinea x = Scene.busy();
        Scene.refused(check, x, LOST + OUTSIDE, () -> x.best(0, 0, 0, 1, -1), () -> x.best(0, 0, 0, 1, 2),
                () -> x.best(0, 0, 0, 1, MIN), () -> x.best(0, 0, 0, 1, MAX));
    }

    static void promise17_unknownAheadOfOutside(Check check) {
        AdmiralGuinea x = Scene.busy();
        Scene.refused(check, x, LOST + UNKNOWN, () -> x.best(4, -1, 0, 1, 0), () -> x.best(4, 0, -1, 1, 0),
                () -> x.best(4, 0, 0, 0, 0), () -> x.best(-1, 0, 0, 1, 2));
    }

    static void promise17_zeroForNone(Check check) {
        AdmiralGuinea x = new AdmiralGuinea();
        bestIs(check, x, 0, 0, 1, 0, 1);
        bestIs(check, x, 999999, 0, 9, 0, 1);
        // 19 of 10 in the mean, at 2: a loss
        bestIs(check, x, 100000, 100000, 2, 0, 1);
        x.cash(0, 0);
        bestIs(check, x, 999999, 999999, 1, 0, 1);
    }

    static void promise17_noOfferOnALifeThatHasEnded(Check check) {
        AdmiralGuinea x = new AdmiralGuinea();
        check.does(x, "AxFx", 2);
        bestIs(check, x, 900009, 900009, 1, 0, 1);
        x.odds(0, 0);
        bestIs(check, x, 900000, 900000, 1, 0, 1);
        x.heir(0);
        bestIs(check, x, 900000, 900000, 1, 81, 1);
    }

    static void promise17_cashIsJustEnough(Check check) {
        AdmiralGuinea x = new AdmiralGuinea();
        x.cash(0, 9);
        bestIs(check, x, 900000, 500000, 1, 36, 1);
        x.cash(0, 8);
        bestIs(check, x, 900000, 500000, 1, 0, 1);
        x.cash(0, 18);
        bestIs(check, x, 900900, 500500, 1, 72, 1);
        x.cash(0, 17);
        bestIs(check, x, 900900, 500500, 1, 36, 1);
    }

    static void promise17_forNothingWithNoCash(Check check) {
        AdmiralGuinea x = new AdmiralGuinea();
        x.cash(0, 0);
        x.odds(5, 0);
        bestIs(check, x, 9, 1, 1, 9, 1);
    }

    static void promise17_theMostThatCanBe(Check check) {
        AdmiralGuinea x = new AdmiralGuinea();
        for (int l = 0; l < 6; l++) x.odds(l, 0);
        // 540 times 999999999 of 10^9
        bestIs(check, x, 999999, 999999, 9, 26999999973L, 50000000L);
    }

    static void promise17_inLowestTerms(Check check) {
        AdmiralGuinea x = new AdmiralGuinea();
        // 10 times 3 of 4, less 2
        bestIs(check, x, 10, 50, 2, 11, 2);
        // 10 times 51 of 100, less 2
        bestIs(check, x, 10, 30, 2, 31, 10);
    }

    // ---- 18 buys

    static void promise18_noBuyerBelow0OrAbove3(Check check) {
        AdmiralGuinea x = Scene.busy();
        Scene.refused(check, x, UNKNOWN, () -> x.buys(-1, 0, 0, 1), () -> x.buys(4, 0, 0, 1),
                () -> x.buys(MIN, 0, 0, 1), () -> x.buys(MAX, 0, 0, 1), () -> x.buys(4, -1, -1, 0));
    }

    static void promise18_offersAndOdds0To999999(Check check) {
        AdmiralGuinea x = Scene.busy();
        Scene.refused(check, x, OUTSIDE, () -> x.buys(0, -1, 0, 1), () -> x.buys(0, 1000000, 0, 1),
                () -> x.buys(0, 0, -1, 1), () -> x.buys(0, 0, 1000000, 1), () -> x.buys(0, MIN, MAX, 1));
        AdmiralGuinea y = Scene.rich();
        check.due("all", y.buys(0, 999999, 999999, 1), 63);
        check.due("none", y.buys(0, 0, 0, 1), 0);
    }

    static void promise18_months1To9(Check check) {
        AdmiralGuinea x = Scene.busy();
        Scene.refused(check, x, OUTSIDE, () -> x.buys(0, 0, 0, 0), () -> x.buys(0, 0, 0, 10),
                () -> x.buys(0, 0, 0, MIN), () -> x.buys(0, 0, 0, MAX));
        AdmiralGuinea y = Scene.rich();
        check.due("1", y.buys(0, 999999, 222222, 1), 63);
        check.due("9", y.buys(0, 999999, 222222, 9), 63);
    }

    static void promise18_life0sDigitIsTheHighest(Check check) {
        AdmiralGuinea x = Scene.rich();
        int digit = 100000;
        for (int l = 0; l < 6; l++) {
            check.due("on life " + l, x.buys(0, digit, 999999, 1), 1 << l);
            check.due("knows of life " + l, x.buys(0, 999999, 9 * digit, 1), 1 << l);
            digit /= 10;
        }
    }

    static void promise18_whatBringsNothingIsLeft(Check check) {
        AdmiralGuinea x = Scene.rich();
        check.due("even", x.buys(0, 999999, 111111, 1), 0);
        check.due("but one", x.buys(0, 999999, 111121, 1), 16);
        check.due("no offer", x.buys(0, 900000, 999999, 1), 1);
    }

    static void promise18_ofAsMuchTheLeastAsBits(Check check) {
        AdmiralGuinea x = new AdmiralGuinea();
        x.cash(0, 9);
        check.due("one of six", x.buys(0, 999999, 555555, 1), 1);
        check.due("one of the last two", x.buys(0, 99, 55, 1), 16);
        x.cash(0, 18);
        check.due("two of six", x.buys(0, 999999, 555555, 1), 3);
        // one of 60 brings 12, as much as two of 30
        AdmiralGuinea y = new AdmiralGuinea();
        y.cash(0, 6);
        check.due("A or B and C", y.buys(0, 633000, 333000, 1), 1);
        check.due("D and E or F", y.buys(0, 336, 333, 1), 24);
    }

    static void promise18_noneOnALifeThatHasEnded(Check check) {
        AdmiralGuinea x = Scene.rich();
        check.does(x, "AxFx", 2);
        check.due("the four others", x.buys(0, 999999, 999999, 1), 30);
    }

    static void promise18_nothingIsBoughtInFact(Check check) {
        AdmiralGuinea x = Scene.busy();
        Scene.refused(check, x, 31, () -> x.buys(1, 555555, 999999, 1));
    }

    // ---- 19 voids

    private static void voidIs(Check check, AdmiralGuinea x, int g, int many, int which) {
        check.due("voids(" + g + ", 0)", x.voids(g, 0), many);
        check.due("voids(" + g + ", 1)", x.voids(g, 1), which);
    }

    static void promise19_g0To999(Check check) {
        AdmiralGuinea x = Scene.busy();
        Scene.refused(check, x, OUTSIDE, () -> x.voids(-1, 0), () -> x.voids(1000, 0), () -> x.voids(MIN, 1),
                () -> x.voids(MAX, 1));
        voidIs(check, x, 0, 3, 7);
        voidIs(check, x, 999, 0, 0);
    }

    static void promise19_whatIs0Or1(Check check) {
        AdmiralGuinea x = Scene.busy();
        Scene.refused(check, x, OUTSIDE, () -> x.voids(0, -1), () -> x.voids(0, 2), () -> x.voids(0, MIN),
                () -> x.voids(0, MAX));
    }

    static void promise19_noPolicies(Check check) {
        AdmiralGuinea x = new AdmiralGuinea();
        voidIs(check, x, 0, 0, 0);
        voidIs(check, x, 999, 0, 0);
    }

    static void promise19_justGIsNotMore(Check check) {
        AdmiralGuinea x = new AdmiralGuinea();
        check.does(x, "aA31aA41", 2);
        voidIs(check, x, 70, 0, 0);
        voidIs(check, x, 69, 1, 1);
        voidIs(check, x, 40, 1, 1);
        voidIs(check, x, 39, 1, 2);
        voidIs(check, x, 30, 1, 2);
        voidIs(check, x, 29, 2, 3);
    }

    static void promise19_gainsAbove999(Check check) {
        AdmiralGuinea x = Scene.twelve(check);
        voidIs(check, x, 999, 1, 1);
        voidIs(check, x, 990, 1, 1);
        voidIs(check, x, 989, 2, 3);
        voidIs(check, x, 90, 11, 2047);
        voidIs(check, x, 89, 12, 4095);
        voidIs(check, x, 0, 12, 4095);
    }

    static void promise19_ofAsFewTheLeastAsBits(Check check) {
        AdmiralGuinea x = Scene.rich();
        check.does(x, "aA11aA91aA21aA91aA91", 5);
        voidIs(check, x, 299, 1, 1);
        voidIs(check, x, 290, 1, 1);
        voidIs(check, x, 280, 1, 2);
        voidIs(check, x, 210, 1, 2);
        voidIs(check, x, 209, 2, 3);
        voidIs(check, x, 200, 2, 3);
        voidIs(check, x, 110, 3, 11);
        voidIs(check, x, 30, 3, 26);
    }

    static void promise19_byTheEndOfAnyOneLife(Check check) {
        AdmiralGuinea x = new AdmiralGuinea();
        check.does(x, "aA91aB91bA91dF91", 4);
        voidIs(check, x, 90, 0, 0);
        voidIs(check, x, 89, 4, 15);
    }

    static void promise19_nothingIsVoidInFact(Check check) {
        AdmiralGuinea x = Scene.busy();
        Scene.refused(check, x, 7, () -> x.voids(0, 1));
    }

    static void promise19_policiesThatAreNoMoreDoNotCount(Check check) {
        AdmiralGuinea x = new AdmiralGuinea();
        check.does(x, "aA91aA12aB91Bx.", 5);
        voidIs(check, x, 0, 1, 2);
        voidIs(check, x, 10, 0, 0);
    }

    // ---- 20 ruin

    private static void ruinIs(Check check, AdmiralGuinea x, int t, long upper, long lower) {
        check.fraction("ruin in " + t, x.ruin(t, 0, 0), x.ruin(t, 0, 1), upper, lower);
    }

    private static void meanIs(Check check, AdmiralGuinea x, int t, long upper, long lower) {
        check.fraction("mean in " + t, x.ruin(t, 1, 0), x.ruin(t, 1, 1), upper, lower);
    }

    static void promise20_months0To3(Check check) {
        AdmiralGuinea x = Scene.busy();
        Scene.refused(check, x, LOST + OUTSIDE, () -> x.ruin(-1, 0, 0), () -> x.ruin(4, 0, 0), () -> x.ruin(MIN, 1, 1),
                () -> x.ruin(MAX, 1, 1));
    }

    static void promise20_whatIs0Or1(Check check) {
        AdmiralGuinea x = Scene.busy();
        Scene.refused(check, x, LOST + OUTSIDE, () -> x.ruin(0, -1, 0), () -> x.ruin(0, 2, 0),
                () -> x.ruin(0, MIN, 1), () -> x.ruin(0, MAX, 1));
    }

    static void promise20_partIs0Or1(Check check) {
        AdmiralGuinea x = Scene.busy();
        Scene.refused(check, x, LOST + OUTSIDE, () -> x.ruin(0, 0, -1), () -> x.ruin(0, 0, 2),
                () -> x.ruin(0, 1, MIN), () -> x.ruin(0, 1, MAX));
    }

    static void promise20_in0Months(Check check) {
        AdmiralGuinea x = new AdmiralGuinea();
        x.odds(0, 9);
        check.does(x, "aA11", 1);
        x.funds(0);
        ruinIs(check, x, 0, 0, 1);
        meanIs(check, x, 0, 0, 1);
    }

    static void promise20_noPolicies(Check check) {
        AdmiralGuinea x = new AdmiralGuinea();
        x.funds(0);
        for (int t = 0; t <= 3; t++) {
            ruinIs(check, x, t, 0, 1);
            meanIs(check, x, t, 0, 1);
        }
    }

    static void promise20_justFundsIsNotMore(Check check) {
        AdmiralGuinea x = new AdmiralGuinea();
        check.does(x, "aA31bA41cB51", 3);
        x.funds(70);
        ruinIs(check, x, 1, 1, 100);
        x.funds(69);
        ruinIs(check, x, 1, 1, 10);
        x.funds(50);
        ruinIs(check, x, 1, 1, 10);
        x.funds(49);
        ruinIs(check, x, 1, 19, 100);
        x.funds(119);
        ruinIs(check, x, 1, 1, 100);
        x.funds(120);
        ruinIs(check, x, 1, 0, 1);
        meanIs(check, x, 1, 12, 1);
    }

    static void promise20_odds0(Check check) {
        AdmiralGuinea x = new AdmiralGuinea();
        x.odds(0, 0);
        check.does(x, "aA91", 1);
        x.funds(0);
        ruinIs(check, x, 3, 0, 1);
        meanIs(check, x, 3, 0, 1);
    }

    static void promise20_allSixInThreeMonths(Check check) {
        AdmiralGuinea x = Scene.rich();
        for (int l = 0; l < 6; l++) x.odds(l, 9);
        check.does(x, "aA11aB11aC11aD11aE11aF11", 6);
        x.funds(0);
        ruinIs(check, x, 3, WHOLE - 1, WHOLE);
        x.funds(59);
        ruinIs(check, x, 3, 994014980014994001L, WHOLE);
        x.funds(60);
        ruinIs(check, x, 3, 0, 1);
        meanIs(check, x, 3, 2997, 50);
    }

    static void promise20_theMostThatMayHaveToBePaid(Check check) {
        AdmiralGuinea x = Scene.twelve(check);
        x.odds(0, 9);
        x.funds(1079);
        ruinIs(check, x, 3, 999, 1000);
        meanIs(check, x, 3, 26973, 25);
        x.funds(1080);
        ruinIs(check, x, 3, 0, 1);
        meanIs(check, x, 3, 26973, 25);
    }

    static void promise20_policiesThatWillBeOverCountToo(Check check) {
        AdmiralGuinea x = new AdmiralGuinea();
        check.does(x, "aA11", 1);
        x.funds(9);
        ruinIs(check, x, 1, 1, 10);
        ruinIs(check, x, 2, 19, 100);
        ruinIs(check, x, 3, 271, 1000);
        meanIs(check, x, 3, 271, 100);
    }

    static void promise20_aLifeThatHasEndedDoesNotEnd(Check check) {
        AdmiralGuinea x = new AdmiralGuinea();
        check.does(x, "aA91bB11Ax", 3);
        x.funds(9);
        ruinIs(check, x, 1, 1, 10);
        meanIs(check, x, 1, 1, 1);
        x.funds(10);
        ruinIs(check, x, 1, 0, 1);
        x.odds(0, 9);
        meanIs(check, x, 1, 1, 1);
    }

    // ---- 21 tells

    static void promise21_tens1To9(Check check) {
        AdmiralGuinea x = Scene.busy();
        Scene.refused(check, x, OUTSIDE, () -> x.tells(0, 1, 1), () -> x.tells(10, 1, 1), () -> x.tells(MIN, 1, 1),
                () -> x.tells(MAX, 1, 1));
        check.due("10", x.tells(1, 1, 9), 512);
        check.due("90", x.tells(9, 1, 9), 2);
    }

    static void promise21_months1To9(Check check) {
        AdmiralGuinea x = Scene.busy();
        Scene.refused(check, x, OUTSIDE, () -> x.tells(1, 0, 1), () -> x.tells(1, 10, 1), () -> x.tells(1, MIN, 1),
                () -> x.tells(1, MAX, 1));
        check.due("1", x.tells(1, 1, 1), 2);
        check.due("9", x.tells(1, 9, 7), 2);
    }

    static void promise21_price0To99(Check check) {
        AdmiralGuinea x = Scene.busy();
        Scene.refused(check, x, OUTSIDE, () -> x.tells(1, 1, -1), () -> x.tells(1, 1, 100), () -> x.tells(1, 1, MIN),
                () -> x.tells(1, 1, MAX));
        check.due("99", x.tells(9, 9, 99), 0);
    }

    static void promise21_odds0DoNotCount(Check check) {
        AdmiralGuinea x = new AdmiralGuinea();
        for (int s = 1; s <= 9; s++) check.due("price 0", x.tells(s, 9, 0), 0);
    }

    static void promise21_noOddsOrAllBut(Check check) {
        AdmiralGuinea x = new AdmiralGuinea();
        check.due("10 to 90 at 1 month", x.tells(9, 1, 10), 0);
        check.due("3 to 9 tenths", x.tells(1, 9, 10), 1016);
        check.due("1 tenth, the least", x.tells(9, 1, 9), 2);
        check.due("9 tenths, the most", x.tells(9, 1, 81), 512);
        check.due("nearly 90", x.tells(9, 9, 90), 1008);
    }

    static void promise21_whateverIsSo(Check check) {
        AdmiralGuinea x = new AdmiralGuinea();
        for (int l = 0; l < 6; l++) x.odds(l, 0);
        check.does(x, "AxBxCxDxExFx", 6);
        check.due("lives are no matter", x.tells(1, 1, 3), 8);
    }

    // ---- 22 parts

    static void promise22_whateverIsSo(Check check) {
        AdmiralGuinea x = new AdmiralGuinea();
        check.due("parts", x.parts(), 16);
        check.does(x, "AxBxCxDxExFx", 6);
        check.due("parts", x.parts(), 16);
        check.due("parts", Scene.busy().parts(), 16);
    }

    static void promise22_byWhatPricesTell(Check check) {
        int apart = 0;
        for (int s = 1; s <= 9; s++) {
            for (int t = 1; t <= 9; t++) {
                AdmiralGuinea x = new AdmiralGuinea();
                int odds = 0;
                for (int price = 0; price <= 99; price++) {
                    if (Integer.bitCount(x.tells(s, t, price)) == 1) odds++;
                }
                if (odds == 9) apart++;
            }
        }
        check.due("parts", new AdmiralGuinea().parts(), apart);
    }
}
