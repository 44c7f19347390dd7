/** The boundary cases that promises 29 to 32 and their terms name: year, image, restore, told. */
public final class Boundaries29To32Test {
    private static final int OUTSIDE = Scene.OUTSIDE, STATE = Scene.STATE, MIN = Scene.MIN, MAX = Scene.MAX;

    public static void main(String[] args) {
        Named.run(Boundaries29To32Test.class, 29, 32);
    }

    // ---- 29 year
    // By seed 9999 month 1 is 29092: life E, 8, buyer a, five months (at 5, odds being 1);
    // month 2 is 19253: life F, 8, buyer a, nine months (at 7).
    // By seed 35 month 1 is 2699: life F, 9, buyer a, three months (at 3); month 2 is 5888: life C, 1.

    private static void yearIs(Check check, AdmiralGuinea x, int seed, int m, int... cashFundsLives) {
        for (int what = 0; what < 3; what++) {
            check.due("year(" + seed + ", " + m + ", " + what + ")", x.year(seed, m, what), cashFundsLives[what]);
        }
    }

    static void promise29_seed0To9999(Check check) {
        AdmiralGuinea x = Scene.busy();
        Scene.refused(check, x, OUTSIDE, () -> x.year(-1, 1, 0), () -> x.year(10000, 1, 0), () -> x.year(MIN, 1, 1),
                () -> x.year(MAX, 1, 2));
        AdmiralGuinea y = new AdmiralGuinea();
        yearIs(check, y, 0, 1, 399, 1001, 6);
        yearIs(check, y, 9999, 1, 395, 1005, 6);
    }

    static void promise29_months1To60(Check check) {
        AdmiralGuinea x = Scene.busy();
        Scene.refused(check, x, OUTSIDE, () -> x.year(0, 0, 0), () -> x.year(0, 61, 0), () -> x.year(0, MIN, 1),
                () -> x.year(0, MAX, 2));
        AdmiralGuinea y = new AdmiralGuinea();
        yearIs(check, y, 9999, 2, 388, 1012, 6);
        yearIs(check, y, 77, 60, 314, 1086, 2);
    }

    static void promise29_sixtyMonthsOfEverySeedOfSome(Check check) {
        Model model = new Model();
        for (int seed = 0; seed <= 9999; seed += 101) {
            AdmiralGuinea x = new AdmiralGuinea();
            for (int what = 0; what < 3; what++) {
                check.due("year of 59 by " + seed, x.year(seed, 59, what), model.year(seed, 59, what));
                check.due("year of 60 by " + seed, x.year(seed, 60, what), model.year(seed, 60, what));
            }
        }
    }

    static void promise29_whatIs0To2(Check check) {
        AdmiralGuinea x = Scene.busy();
        Scene.refused(check, x, OUTSIDE, () -> x.year(0, 1, -1), () -> x.year(0, 1, 3), () -> x.year(0, 1, MIN),
                () -> x.year(0, 1, MAX));
    }

    static void promise29_leftOverBy65537(Check check) {
        AdmiralGuinea x = new AdmiralGuinea();
        // 65474 as it is: life C, 2, buyer d, three months; 65549 is 12: life A, 2, buyer a, one month
        yearIs(check, x, 872, 1, 397, 1003, 6);
        yearIs(check, x, 873, 1, 399, 1001, 6);
        check.does(x, "Ax", 1);
        yearIs(check, x, 872, 1, 397, 1003, 5);
        yearIs(check, x, 873, 1, 400, 1000, 5);
    }

    static void promise29_lessThanItsOdds(Check check) {
        AdmiralGuinea x = new AdmiralGuinea();
        x.odds(4, 8);
        yearIs(check, x, 9999, 1, 390, 1010, 6);
        x.odds(4, 9);
        yearIs(check, x, 9999, 1, 400, 1000, 5);
    }

    static void promise29_odds0(Check check) {
        AdmiralGuinea x = new AdmiralGuinea();
        for (int l = 0; l < 6; l++) x.odds(l, 0);
        yearIs(check, x, 77, 60, 400, 1000, 6);
    }

    static void promise29_aLifeThatHasEndedIsNotInsured(Check check) {
        AdmiralGuinea x = new AdmiralGuinea();
        check.does(x, "Ex", 1);
        yearIs(check, x, 9999, 1, 400, 1000, 5);
        yearIs(check, x, 9999, 2, 393, 1007, 5);
        x.odds(4, 9);
        yearIs(check, x, 9999, 1, 400, 1000, 5);
    }

    static void promise29_whenAllHaveEnded(Check check) {
        AdmiralGuinea x = new AdmiralGuinea();
        check.does(x, "AxBxCxDxExFx", 6);
        yearIs(check, x, 9999, 60, 400, 1000, 0);
    }

    static void promise29_cashIsJustEnough(Check check) {
        AdmiralGuinea x = new AdmiralGuinea();
        x.cash(0, 5);
        yearIs(check, x, 9999, 1, 300, 1005, 6);
        x.cash(0, 4);
        yearIs(check, x, 9999, 1, 304, 1000, 6);
    }

    static void promise29_whoBuys(Check check) {
        // 65474: buyer d at 3; 74: buyer b at 1; 29092: buyer a at 5
        int[][] seedBuyerPrice = {{872, 3, 3}, {0, 1, 1}, {9999, 0, 5}};
        for (int[] c : seedBuyerPrice) {
            AdmiralGuinea x = Scene.rich();
            x.cash(c[1], c[2] - 1);
            yearIs(check, x, c[0], 1, 3 * 999 + c[2] - 1, 1000, 6);
            for (int b = 0; b < 4; b++) x.cash(b, 0);
            x.cash(c[1], c[2]);
            yearIs(check, x, c[0], 1, 0, 1000 + c[2], 6);
        }
    }

    static void promise29_allNumbersAreGiven(Check check) {
        AdmiralGuinea x = Scene.twelve(check);
        yearIs(check, x, 9999, 1, 400, 1000, 6);
        // all are over behind month 0
        yearIs(check, x, 9999, 2, 393, 1007, 6);
    }

    static void promise29_aPolicyTillMonth99(Check check) {
        AdmiralGuinea x = new AdmiralGuinea();
        check.months(x, 95);
        yearIs(check, x, 9999, 1, 395, 1005, 6);
        check.months(x, 1);
        yearIs(check, x, 9999, 1, 400, 1000, 6);
    }

    static void promise29_theNextMonthComesIfItCan(Check check) {
        AdmiralGuinea x = new AdmiralGuinea();
        x.odds(2, 2);
        check.does(x, "dC11", 1);
        // d's policy is over when C ends
        yearIs(check, x, 35, 2, 395, 1005, 5);
        check.months(x, 99);
        x.cash(3, 100);
        x.funds(1000);
        check.does(x, "dC11", 1);
        // no month comes behind 99: it is paid; and a can not buy
        yearIs(check, x, 35, 2, 408, 992, 5);
    }

    static void promise29_cash999AndFunds9999AtMost(Check check) {
        AdmiralGuinea x = new AdmiralGuinea();
        x.funds(9999);
        yearIs(check, x, 9999, 1, 395, 9999, 6);
        check.does(x, "dE91", 1);
        x.cash(3, 950);
        x.odds(4, 9);
        yearIs(check, x, 9999, 1, 300 + 999, 9999 - 90, 5);
    }

    static void promise29_asMuchAsFundsAre(Check check) {
        AdmiralGuinea x = new AdmiralGuinea();
        check.does(x, "dE91", 1);
        x.odds(4, 9);
        x.funds(50);
        yearIs(check, x, 9999, 1, 391 + 50, 0, 5);
    }

    static void promise29_nothingIsDoneInFact(Check check) {
        AdmiralGuinea x = Scene.busy();
        Scene.refused(check, x, x.year(35, 60, 1), () -> x.year(35, 60, 1));
    }

    static void promise29_signsAreNoMatter(Check check) {
        AdmiralGuinea x = new AdmiralGuinea();
        check.pad(x, "!");
        yearIs(check, x, 9999, 1, 395, 1005, 6);
        check.pad(x, "Ex");
        yearIs(check, x, 9999, 1, 395, 1005, 6);
        check.due("signs", x.told(0), 2);
    }

    // ---- 30 image

    static void promise30_images0And1(Check check) {
        AdmiralGuinea x = Scene.busy();
        Scene.refused(check, x, OUTSIDE, () -> x.image(-1), () -> x.image(2), () -> x.image(MIN), () -> x.image(MAX));
        check.due("none was kept", x.restore(0), STATE);
        check.due("image 0", x.image(0), 1);
        check.due("image 1", x.image(1), 1);
    }

    static void promise30_keepingChangesNothing(Check check) {
        AdmiralGuinea x = Scene.busy();
        Scene.refused(check, x, 1, () -> x.image(0), () -> x.image(1), () -> x.image(0));
    }

    static void promise30_allButThePadIsKept(Check check) {
        AdmiralGuinea x = Scene.busy();
        long[] before = Scene.shot(x);
        x.image(0);
        changeAll(check, x);
        Scene.say(x, "dD21b1a.Cx");
        check.due("restore", x.restore(0), 1);
        Scene.same(check, before, Scene.shot(x));
    }

    static void promise30_thePadIsNotKept(Check check) {
        AdmiralGuinea x = new AdmiralGuinea();
        check.pad(x, "A-A-");
        x.image(0);
        x.wipe();
        x.restore(0);
        check.due("no signs come", x.told(0), 0);
        check.due("nothing to do", x.done(), 0);
        x.image(1);
        check.pad(x, "B-.");
        x.restore(1);
        check.due("signs stay", x.told(0), 3);
        check.due("and can be done", x.done(), 2);
        check.due("as they are", x.told(21), 2);
    }

    static void promise30_keptAnew(Check check) {
        AdmiralGuinea x = new AdmiralGuinea();
        x.funds(1);
        x.image(0);
        x.funds(2);
        check.due("anew", x.image(0), 1);
        x.funds(3);
        x.restore(0);
        check.due("the last that was kept", x.told(2), 2);
    }

    static void promise30_theTwoAreApart(Check check) {
        AdmiralGuinea x = new AdmiralGuinea();
        x.odds(0, 5);
        x.image(0);
        x.odds(0, 6);
        x.image(1);
        x.odds(0, 7);
        x.restore(0);
        check.due("image 0", x.told(20), 5);
        x.restore(1);
        check.due("image 1", x.told(20), 6);
        x.restore(0);
        check.due("image 0", x.told(20), 5);
    }

    private static void changeAll(Check check, AdmiralGuinea x) {
        check.does(x, "AxBxCx..", 5);
        for (int l = 0; l < 6; l++) x.odds(l, 9);
        for (int b = 0; b < 4; b++) x.cash(b, 500 + b);
        check.does(x, "dD42dE42", 2);
        x.funds(3);
        x.heir(5);
        x.forget();
        for (int i = 0; i < 8; i++) x.seen((i + 1) % 4, (i + 2) % 6, 10 * i + 10);
    }

    // ---- 31 restore

    static void promise31_images0And1(Check check) {
        AdmiralGuinea x = Scene.busy();
        x.image(0);
        Scene.refused(check, x, OUTSIDE, () -> x.restore(-1), () -> x.restore(2), () -> x.restore(MIN),
                () -> x.restore(MAX));
    }

    static void promise31_stateIfItWasNotKept(Check check) {
        AdmiralGuinea x = Scene.busy();
        Scene.refused(check, x, STATE, () -> x.restore(0), () -> x.restore(0));
        AdmiralGuinea y = new AdmiralGuinea();
        check.due("0", y.restore(0), STATE);
        check.due("1", y.restore(1), STATE);
        y.image(0);
        check.due("1 still", y.restore(1), STATE);
        check.due("0", y.restore(0), 1);
    }

    static void promise31_asOftenAsOneLikes(Check check) {
        AdmiralGuinea x = new AdmiralGuinea();
        x.image(1);
        for (int i = 0; i < 3; i++) {
            check.does(x, "aA11Bx.", 3);
            x.cash(2, 7);
            x.seen(0, 0, 10);
            check.due("restore", x.restore(1), 1);
            check.due("month", x.told(1), 0);
            check.due("ended", x.told(4), 0);
            check.due("given", x.told(5), 0);
            check.due("cash", x.told(12), 100);
            check.due("sights", x.told(3), 0);
        }
    }

    static void promise31_theOtherImageIsLeft(Check check) {
        AdmiralGuinea x = new AdmiralGuinea();
        x.image(0);
        x.funds(77);
        x.image(1);
        x.restore(0);
        check.due("image 0 was kept ahead of 1", x.told(2), 1000);
        check.due("yet 1 is there", x.restore(1), 1);
        check.due("as it was", x.told(2), 77);
    }

    static void promise31_monthsGoBack(Check check) {
        AdmiralGuinea x = new AdmiralGuinea();
        check.does(x, "aA19", 1);
        x.image(0);
        check.months(x, 99);
        check.due("over", x.told(6), 0);
        x.restore(0);
        check.due("month", x.told(1), 0);
        check.due("the policy is there again", x.policy(0, 3), 8);
        check.does(x, "Ax", 1);
        check.due("and is paid", x.told(10), 100 - 7 + 10);
    }

    // ---- 32 told

    static void promise32_whatIsNotToldIsOutside(Check check) {
        AdmiralGuinea x = Scene.busy();
        Scene.refused(check, x, OUTSIDE, () -> x.told(-1), () -> x.told(7), () -> x.told(8), () -> x.told(9),
                () -> x.told(14), () -> x.told(15), () -> x.told(19), () -> x.told(26), () -> x.told(27),
                () -> x.told(30), () -> x.told(MIN), () -> x.told(MIN + 9), () -> x.told(MIN + 19), () -> x.told(MAX));
    }

    static void promise32_signs0To60(Check check) {
        AdmiralGuinea x = new AdmiralGuinea();
        check.due("none", x.told(0), 0);
        check.pad(x, ".".repeat(60));
        check.due("all", x.told(0), 60);
        x.say('.');
        check.due("all", x.told(0), 60);
    }

    static void promise32_month0To99(Check check) {
        check.due("the first", new AdmiralGuinea().told(1), 0);
        check.due("the last", Scene.late(check).told(1), 99);
    }

    static void promise32_funds0To9999(Check check) {
        AdmiralGuinea x = new AdmiralGuinea();
        x.funds(0);
        check.due("the least", x.told(2), 0);
        x.funds(9999);
        check.due("the most", x.told(2), 9999);
    }

    static void promise32_sights0To8(Check check) {
        AdmiralGuinea x = new AdmiralGuinea();
        check.due("none", x.told(3), 0);
        for (int i = 0; i < 9; i++) x.seen(3, 5, 999);
        check.due("all", x.told(3), 8);
    }

    static void promise32_livesThatHaveEndedAsBits(Check check) {
        AdmiralGuinea x = new AdmiralGuinea();
        check.due("none", x.told(4), 0);
        for (int l = 0; l < 6; l++) {
            check.does(x, "ABCDEF".charAt(l) + "x", 1);
            check.due("up to " + l, x.told(4), (2 << l) - 1);
        }
    }

    static void promise32_numbersGiven0To12(Check check) {
        AdmiralGuinea x = Scene.rich();
        check.due("none", x.told(5), 0);
        for (int n = 1; n <= 12; n++) {
            check.does(x, "aA11", 1);
            check.due("given", x.told(5), n);
        }
        check.does(x, "Ax", 1);
        check.due("none", x.told(5), 0);
    }

    static void promise32_policiesAsBits(Check check) {
        AdmiralGuinea x = Scene.rich();
        check.due("none", x.told(6), 0);
        for (int n = 1; n <= 12; n++) {
            check.does(x, n == 12 ? "aB12" : "aA11", 1);
            check.due("policies", x.told(6), (1 << n) - 1);
        }
        check.does(x, ".", 1);
        check.due("the last one", x.told(6), 2048);
        check.does(x, ".", 1);
        check.due("none", x.told(6), 0);
    }

    static void promise32_everyBuyersCashAndEveryLifesOdds(Check check) {
        AdmiralGuinea x = new AdmiralGuinea();
        for (int b = 0; b < 4; b++) x.cash(b, 333 * b);
        for (int l = 0; l < 6; l++) x.odds(l, 9 - l);
        for (int b = 0; b < 4; b++) check.due("cash", x.told(10 + b), 333 * b);
        for (int l = 0; l < 6; l++) check.due("odds", x.told(20 + l), 9 - l);
    }
}
