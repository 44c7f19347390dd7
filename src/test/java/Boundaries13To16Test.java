/** The boundary cases that promises 13 to 16 and their terms name: price, chance, gains, worth. */
public final class Boundaries13To16Test {
    private static final int NONE = Scene.NONE, UNKNOWN = Scene.UNKNOWN, OUTSIDE = Scene.OUTSIDE,
            STATE = Scene.STATE, MIN = Scene.MIN, MAX = Scene.MAX;
    private static final long LOST = AdmiralGuinea.LOST;

    public static void main(String[] args) {
        Named.run(Boundaries13To16Test.class, 13, 16);
    }

    // ---- 13 price

    static void promise13_tens1To9(Check check) {
        AdmiralGuinea x = new AdmiralGuinea();
        check.due("10", x.price(0, 1, 1), 1);
        check.due("90", x.price(0, 9, 1), 9);
        check.due("0", x.price(0, 0, 1), OUTSIDE);
        check.due("100", x.price(0, 10, 1), OUTSIDE);
        check.due("-10", x.price(0, -1, 1), OUTSIDE);
        check.due("MIN", x.price(0, MIN, 1), OUTSIDE);
        check.due("MAX", x.price(0, MAX, 1), OUTSIDE);
    }

    static void promise13_months1To9(Check check) {
        AdmiralGuinea x = new AdmiralGuinea();
        check.due("1", x.price(5, 9, 1), 9);
        check.due("9", x.price(5, 9, 9), 56);
        check.due("0", x.price(5, 9, 0), OUTSIDE);
        check.due("10", x.price(5, 9, 10), OUTSIDE);
        check.due("-1", x.price(5, 9, -1), OUTSIDE);
        check.due("MIN", x.price(5, 9, MIN), OUTSIDE);
        check.due("MAX", x.price(5, 9, MAX), OUTSIDE);
    }

    static void promise13_noLifeBelow0OrAbove5(Check check) {
        AdmiralGuinea x = Scene.busy();
        Scene.refused(check, x, UNKNOWN, () -> x.price(-1, 1, 1), () -> x.price(6, 1, 1), () -> x.price(MIN, 1, 1),
                () -> x.price(MAX, 1, 1));
    }

    static void promise13_stateIfItHasEnded(Check check) {
        AdmiralGuinea x = Scene.busy();
        Scene.refused(check, x, STATE, () -> x.price(5, 1, 1), () -> x.price(5, 9, 9));
        check.due("the one beside it", x.price(4, 1, 1), 1);
        x.heir(5);
        check.due("its heir", x.price(5, 1, 1), 1);
    }

    static void promise13_unknownThenOutsideThenState(Check check) {
        AdmiralGuinea x = Scene.busy();
        check.due("unknown ahead of outside", x.price(6, 0, 0), UNKNOWN);
        check.due("outside ahead of state", x.price(5, 0, 1), OUTSIDE);
        check.due("outside ahead of state", x.price(5, 1, 10), OUTSIDE);
    }

    static void promise13_whatIsOverCountsAsOne(Check check) {
        AdmiralGuinea x = new AdmiralGuinea();
        check.due("19 of 10", x.price(0, 1, 2), 2);
        check.due("171 of 10", x.price(0, 9, 2), 18);
        x.odds(0, 9);
        check.due("9.9", x.price(0, 1, 2), 10);
        check.due("nearly 90", x.price(0, 9, 9), 90);
        x.odds(0, 1);
        check.due("6.1", x.price(0, 1, 9), 7);
    }

    static void promise13_whatIsWholeIsNotMore(Check check) {
        AdmiralGuinea x = new AdmiralGuinea();
        check.due("1", x.price(0, 1, 1), 1);
        x.odds(0, 5);
        check.due("15", x.price(0, 2, 2), 15);
        check.due("30", x.price(0, 4, 2), 30);
        x.odds(0, 9);
        check.due("81", x.price(0, 9, 1), 81);
    }

    static void promise13_odds0AreForNothing(Check check) {
        AdmiralGuinea x = new AdmiralGuinea();
        x.odds(0, 0);
        for (int t = 1; t <= 9; t++) check.due("price", x.price(0, 9, t), 0);
    }

    static void promise13_byItsOddsOfNow(Check check) {
        AdmiralGuinea x = new AdmiralGuinea();
        check.due("1 tenth", x.price(1, 5, 1), 5);
        check.does(x, "B-", 1);
        check.due("2 tenths", x.price(1, 5, 1), 10);
        x.odds(1, 9);
        check.due("9 tenths", x.price(1, 5, 1), 45);
        check.due("another's", x.price(2, 5, 1), 5);
    }

    // ---- 14 chance

    private static void chanceIs(Check check, int odds, int t, long upper, long lower) {
        AdmiralGuinea x = new AdmiralGuinea();
        x.odds(5, odds);
        check.fraction("chance of " + odds + " in " + t, x.chance(5, t, 0), x.chance(5, t, 1), upper, lower);
    }

    static void promise14_in0Months(Check check) {
        for (int odds = 0; odds <= 9; odds++) chanceIs(check, odds, 0, 0, 1);
    }

    static void promise14_in9Months(Check check) {
        chanceIs(check, 1, 9, 612579511L, 1000000000L);
        chanceIs(check, 9, 9, 999999999L, 1000000000L);
    }

    static void promise14_odds0(Check check) {
        for (int t = 0; t <= 9; t++) chanceIs(check, 0, t, 0, 1);
    }

    static void promise14_inLowestTerms(Check check) {
        chanceIs(check, 5, 1, 1, 2);
        chanceIs(check, 5, 9, 511, 512);
        chanceIs(check, 8, 9, 1953124, 1953125);
        chanceIs(check, 2, 1, 1, 5);
        chanceIs(check, 4, 2, 16, 25);
    }

    static void promise14_monthsBelow0OrAbove9AreOutside(Check check) {
        AdmiralGuinea x = Scene.busy();
        Scene.refused(check, x, LOST + OUTSIDE, () -> x.chance(0, -1, 0), () -> x.chance(0, 10, 0),
                () -> x.chance(0, MIN, 1), () -> x.chance(0, MAX, 1));
    }

    static void promise14_partIs0Or1(Check check) {
        AdmiralGuinea x = Scene.busy();
        Scene.refused(check, x, LOST + OUTSIDE, () -> x.chance(0, 1, -1), () -> x.chance(0, 1, 2),
                () -> x.chance(0, 1, MIN), () -> x.chance(0, 1, MAX));
    }

    static void promise14_noLifeBelow0OrAbove5(Check check) {
        AdmiralGuinea x = Scene.busy();
        Scene.refused(check, x, LOST + UNKNOWN, () -> x.chance(-1, 1, 0), () -> x.chance(6, 1, 1),
                () -> x.chance(MIN, 1, 0), () -> x.chance(MAX, 1, 1));
    }

    static void promise14_stateIfItHasEnded(Check check) {
        AdmiralGuinea x = Scene.busy();
        Scene.refused(check, x, LOST + STATE, () -> x.chance(5, 0, 0), () -> x.chance(5, 9, 1));
        x.heir(5);
        check.due("its heir", x.chance(5, 1, 1), 10);
    }

    static void promise14_unknownThenOutsideThenState(Check check) {
        AdmiralGuinea x = Scene.busy();
        check.due("unknown ahead of outside", x.chance(6, 10, 2), LOST + UNKNOWN);
        check.due("outside ahead of state", x.chance(5, 10, 0), LOST + OUTSIDE);
        check.due("outside ahead of state", x.chance(5, 0, 2), LOST + OUTSIDE);
    }

    // ---- 15 gains

    static void promise15_noBuyerBelow0OrAbove3(Check check) {
        AdmiralGuinea x = Scene.busy();
        Scene.refused(check, x, UNKNOWN, () -> x.gains(-1, 0), () -> x.gains(4, 0), () -> x.gains(MIN, 0),
                () -> x.gains(MAX, 0));
    }

    static void promise15_noLifeBelow0OrAbove5(Check check) {
        AdmiralGuinea x = Scene.busy();
        Scene.refused(check, x, UNKNOWN, () -> x.gains(0, -1), () -> x.gains(0, 6), () -> x.gains(0, MIN),
                () -> x.gains(0, MAX), () -> x.gains(4, 6));
    }

    static void promise15_nothing(Check check) {
        AdmiralGuinea x = Scene.busy();
        check.due("another's", x.gains(1, 0), 0);
        check.due("on another life", x.gains(0, 1), 0);
        check.due("of one that has ended", x.gains(0, 5), 0);
        check.due("his own", x.gains(0, 0), 90);
    }

    static void promise15_allTwelveTogether(Check check) {
        AdmiralGuinea x = Scene.twelve(check);
        check.due("12 times 90", x.gains(0, 0), 1080);
        check.due("nobody else", x.gains(1, 0), 0);
        check.does(x, ".", 1);
        check.due("over", x.gains(0, 0), 0);
    }

    // ---- 16 worth

    static void promise16_noneIfHeGainsNothing(Check check) {
        AdmiralGuinea x = new AdmiralGuinea();
        for (int b = 0; b < 4; b++) check.due("worth", x.worth(b), NONE);
        check.does(x, "aA11", 1);
        check.due("he who holds one", x.worth(0), 0);
        check.due("another", x.worth(1), NONE);
        check.does(x, "a0b", 1);
        check.due("passed on", x.worth(0), NONE);
        check.due("to him", x.worth(1), 0);
        check.does(x, ".", 1);
        check.due("over", x.worth(1), NONE);
    }

    static void promise16_ofSeveralTheLeast(Check check) {
        AdmiralGuinea x = new AdmiralGuinea();
        check.does(x, "aF51aC21aC31aE51", 4);
        check.due("C, E and F are even", x.worth(0), 2);
        check.does(x, "aF11", 1);
        check.due("F is more", x.worth(0), 5);
        check.does(x, "aA61", 1);
        check.due("A and F are even", x.worth(0), 0);
    }

    static void promise16_noBuyerBelow0OrAbove3(Check check) {
        AdmiralGuinea x = Scene.busy();
        Scene.refused(check, x, UNKNOWN, () -> x.worth(-1), () -> x.worth(4), () -> x.worth(MIN), () -> x.worth(MAX));
    }
}
