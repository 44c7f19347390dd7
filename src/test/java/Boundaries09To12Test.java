/** The boundary cases that promises 9 to 12 and their terms name: judge, done, behind, policy. */
public final class Boundaries09To12Test {
    private static final int NONE = Scene.NONE, UNKNOWN = Scene.UNKNOWN, OUTSIDE = Scene.OUTSIDE, NO = Scene.NO,
            STATE = Scene.STATE, MIN = Scene.MIN, MAX = Scene.MAX;

    public static void main(String[] args) {
        Named.run(Boundaries09To12Test.class, 9, 12);
    }

    // ---- 9 judge

    static void promise09_whatIs0Or1(Check check) {
        AdmiralGuinea x = Scene.busy();
        Scene.refused(check, x, OUTSIDE, () -> x.judge(-1), () -> x.judge(2), () -> x.judge(MIN), () -> x.judge(MAX));
    }

    static void promise09_noIfThereIsAFault(Check check) {
        for (String text : new String[] {"!", "Ax!", "AxAx!", "a", "AxAxa"}) {
            AdmiralGuinea x = new AdmiralGuinea();
            check.pad(x, text);
            Scene.refused(check, x, NO, () -> x.judge(0), () -> x.judge(1));
        }
    }

    static void promise09_outsideAheadOfNo(Check check) {
        AdmiralGuinea x = new AdmiralGuinea();
        check.pad(x, "!");
        Scene.refused(check, x, OUTSIDE, () -> x.judge(2), () -> x.judge(-1));
    }

    static void promise09_noneOfAnEmptyPad(Check check) {
        AdmiralGuinea x = new AdmiralGuinea();
        check.due("the act", x.judge(0), NONE);
        check.due("why", x.judge(1), NONE);
    }

    static void promise09_noneIfAllCanBe(Check check) {
        AdmiralGuinea x = new AdmiralGuinea();
        check.canBe(x, ".".repeat(60));
        check.canBe(x, "aA11a0bA+A-Ax.");
    }

    static void promise09_theFirstActThatCanNotBe(Check check) {
        AdmiralGuinea x = new AdmiralGuinea();
        check.badAct(x, "a0b", 0, 4);
        check.badAct(x, "..A+A+AxAx", 3, 6);
        check.badAct(x, "A+AxA+AxA+", 2, 1);
        check.badAct(x, ".".repeat(57) + "a0b", 57, 4);
    }

    static void promise09_judgingChangesNothing(Check check) {
        AdmiralGuinea x = Scene.busy();
        Scene.refused(check, x, NONE, () -> x.judge(0), () -> x.judge(1));
        AdmiralGuinea y = Scene.busy();
        y.wipe();
        Scene.say(y, "A-AxBxFx");
        Scene.refused(check, y, 3, () -> y.judge(0));
        check.due("why", y.judge(1), 1);
    }

    static void promise09_reason1TheLifeHasEnded(Check check) {
        AdmiralGuinea x = new AdmiralGuinea();
        check.badAct(x, "FxaF11", 1, 1);
        check.badAct(x, "FxF+", 1, 1);
        check.badAct(x, "FxF-", 1, 1);
        check.badAct(x, "FxFx", 1, 1);
        check.canBe(x, "FxaE11E+E-Ex");
        check.does(x, "Ax", 1);
        check.badAct(x, "aA11", 0, 1);
        x.heir(0);
        check.canBe(x, "aA11A+A-Ax");
    }

    static void promise09_reason2AllTwelveNumbersAreGiven(Check check) {
        AdmiralGuinea x = Scene.rich();
        check.does(x, "aA11".repeat(11), 11);
        check.canBe(x, "aA12");
        check.badAct(x, "aA12aA11", 1, 2);
        check.does(x, "aB12", 1);
        check.badAct(x, "bC11", 0, 2);
        check.does(x, "Ax", 1);
        check.due("one policy is left", x.told(6), 1 << 11);
        check.badAct(x, "bC11", 0, 2);
        check.badAct(x, ".bC11", 1, 2);
        check.canBe(x, "..bC11");
        check.canBe(x, "BxbC11");
    }

    static void promise09_reason3CashIsLessThanThePrice(Check check) {
        AdmiralGuinea x = new AdmiralGuinea();
        x.odds(0, 5);
        x.cash(0, 45);
        check.canBe(x, "aA91");
        x.cash(0, 44);
        check.badAct(x, "aA91", 0, 3);
        check.canBe(x, "bA91");
        x.cash(0, 0);
        check.badAct(x, "aB11", 0, 3);
        x.odds(1, 0);
        check.canBe(x, "aB99");
    }

    static void promise09_reason3WhatIsOverCountsAsOne(Check check) {
        AdmiralGuinea x = new AdmiralGuinea();
        x.cash(0, 1);
        check.badAct(x, "aA12", 0, 3);
        x.cash(0, 2);
        check.canBe(x, "aA12");
    }

    static void promise09_reason3TheSecondsCashIsLessThan1(Check check) {
        AdmiralGuinea x = new AdmiralGuinea();
        check.does(x, "aA19", 1);
        x.cash(1, 0);
        check.badAct(x, "a0b", 0, 3);
        x.cash(1, 1);
        check.canBe(x, "a0b");
        x.cash(0, 0);
        check.canBe(x, "a0b");
        check.badAct(x, "a0ba0b", 1, 3);
    }

    static void promise09_reason4HeHoldsNoSuchPolicy(Check check) {
        AdmiralGuinea x = new AdmiralGuinea();
        check.badAct(x, "a0b", 0, 4);
        check.badAct(x, "a0baA11", 0, 4);
        check.canBe(x, "aA11a0b");
        check.does(x, "aA11aB12", 2);
        check.badAct(x, "a2b", 0, 4);
        check.badAct(x, "a9b", 0, 4);
        check.badAct(x, "c0b", 0, 4);
        check.badAct(x, "a0ba0c", 1, 4);
        check.badAct(x, ".a0b", 1, 4);
        check.canBe(x, ".a1b");
        check.badAct(x, "Axa0b", 1, 4);
    }

    static void promise09_reason5BothAreOne(Check check) {
        AdmiralGuinea x = new AdmiralGuinea();
        check.does(x, "aA11dB11", 2);
        check.badAct(x, "a0a", 0, 5);
        check.badAct(x, "d1d", 0, 5);
        check.canBe(x, "a0bb0a");
    }

    static void promise09_reason6OddsAre0(Check check) {
        AdmiralGuinea x = new AdmiralGuinea();
        check.canBe(x, "A+");
        check.badAct(x, "A+A+", 1, 6);
        x.odds(0, 9);
        check.canBe(x, "A+".repeat(9));
        check.badAct(x, "A+".repeat(10), 9, 6);
    }

    static void promise09_reason6OddsAre9(Check check) {
        AdmiralGuinea x = new AdmiralGuinea();
        check.canBe(x, "A-".repeat(8));
        check.badAct(x, "A-".repeat(9), 8, 6);
        x.odds(0, 9);
        check.badAct(x, "A-", 0, 6);
        check.canBe(x, "A+A-");
    }

    static void promise09_reason7TheMonthWouldBeAbove99(Check check) {
        AdmiralGuinea x = new AdmiralGuinea();
        check.months(x, 98);
        check.canBe(x, ".");
        check.badAct(x, "..", 1, 7);
        check.does(x, ".", 1);
        check.badAct(x, ".", 0, 7);
        check.badAct(x, "A-.", 1, 7);
    }

    static void promise09_reason7TheLastOfAPolicyWouldBeAbove99(Check check) {
        AdmiralGuinea x = new AdmiralGuinea();
        check.months(x, 91);
        check.canBe(x, "aA19");
        check.badAct(x, ".aA19", 1, 7);
        check.canBe(x, ".aA18");
        check.months(x, 8);
        check.canBe(x, "aA11");
        check.badAct(x, "aA12", 0, 7);
    }

    static void promise09_reason1AheadOf2(Check check) {
        AdmiralGuinea x = Scene.rich();
        check.does(x, "aA11".repeat(12), 12);
        check.badAct(x, "BxaB11", 1, 1);
    }

    static void promise09_reason1AheadOf3(Check check) {
        AdmiralGuinea x = new AdmiralGuinea();
        x.cash(0, 0);
        check.badAct(x, "BxaB11", 1, 1);
    }

    static void promise09_reason1AheadOf6(Check check) {
        AdmiralGuinea x = new AdmiralGuinea();
        x.odds(0, 0);
        x.odds(1, 9);
        check.badAct(x, "AxA+", 1, 1);
        check.badAct(x, "BxB-", 1, 1);
    }

    static void promise09_reason1AheadOf7(Check check) {
        AdmiralGuinea x = Scene.late(check);
        check.badAct(x, "AxaA12", 1, 1);
    }

    static void promise09_reason2AheadOf3(Check check) {
        AdmiralGuinea x = Scene.rich();
        check.does(x, "aA11".repeat(12), 12);
        x.cash(1, 0);
        check.badAct(x, "bA11", 0, 2);
    }

    static void promise09_reason2AheadOf7(Check check) {
        AdmiralGuinea x = Scene.late(check);
        check.does(x, "aA11".repeat(12), 12);
        check.badAct(x, "aA12", 0, 2);
    }

    static void promise09_reason3AheadOf4(Check check) {
        AdmiralGuinea x = new AdmiralGuinea();
        x.cash(1, 0);
        check.badAct(x, "a0b", 0, 3);
    }

    static void promise09_reason3AheadOf5(Check check) {
        AdmiralGuinea x = new AdmiralGuinea();
        check.does(x, "aA11", 1);
        x.cash(0, 0);
        check.badAct(x, "a0a", 0, 3);
    }

    static void promise09_reason3AheadOf7(Check check) {
        AdmiralGuinea x = Scene.late(check);
        x.cash(0, 0);
        check.badAct(x, "aA12", 0, 3);
    }

    static void promise09_reason4AheadOf5(Check check) {
        AdmiralGuinea x = new AdmiralGuinea();
        check.badAct(x, "a0a", 0, 4);
        check.does(x, "aA11", 1);
        check.badAct(x, "b0b", 0, 4);
    }

    // ---- 10 done

    static void promise10_ofAnEmptyPad(Check check) {
        AdmiralGuinea x = new AdmiralGuinea();
        Scene.refused(check, x, 0, () -> x.done(), () -> x.done());
    }

    static void promise10_noIfThereIsAFault(Check check) {
        for (String text : new String[] {"A-!", "!A-", "A-a", "A-aA1"}) {
            AdmiralGuinea x = new AdmiralGuinea();
            check.pad(x, text);
            Scene.refused(check, x, NO, () -> x.done());
            check.due("signs", x.told(0), text.length());
        }
    }

    static void promise10_noIfAnActCanNotBe(Check check) {
        for (String text : new String[] {"aA11A-Bx.a0bBx", "BxBxaA11A-.", "a0b"}) {
            AdmiralGuinea x = new AdmiralGuinea();
            check.pad(x, text);
            Scene.refused(check, x, NO, () -> x.done(), () -> x.done());
            check.due("signs", x.told(0), text.length());
        }
    }

    static void promise10_thePadIsEmptyThen(Check check) {
        AdmiralGuinea x = new AdmiralGuinea();
        check.pad(x, "A-.");
        check.due("acts", x.done(), 2);
        check.due("signs", x.told(0), 0);
        check.due("once alone", x.done(), 0);
        check.due("odds", x.told(20), 2);
        check.due("month", x.told(1), 1);
    }

    static void promise10_ofAFullPad(Check check) {
        AdmiralGuinea x = new AdmiralGuinea();
        check.does(x, ".".repeat(60), 60);
        check.due("month", x.told(1), 60);
        check.does(x, "A-A+".repeat(15), 30);
        check.does(x, "aA11".repeat(11) + ".aB11BxC-C+C-...", 20);
        check.due("odds", x.told(22), 2);
    }

    static void promise10_month99IsTheLast(Check check) {
        AdmiralGuinea x = Scene.late(check);
        check.due("month", x.told(1), 99);
        check.pad(x, ".");
        check.due("done", x.done(), NO);
        check.due("month", x.told(1), 99);
    }

    static void promise10_aBuyerMayGiveAllHeHas(Check check) {
        AdmiralGuinea x = new AdmiralGuinea();
        x.odds(0, 5);
        x.cash(0, 45);
        check.does(x, "aA91", 1);
        check.due("cash", x.told(10), 0);
        check.due("funds", x.told(2), 1045);
    }

    static void promise10_funds9999AtMost(Check check) {
        AdmiralGuinea x = new AdmiralGuinea();
        x.odds(0, 5);
        x.funds(9990);
        check.does(x, "aA21", 1);
        check.due("no more than 9999", x.told(2), 9999);
        check.due("the price is gone", x.told(10), 90);
        x.funds(9989);
        check.does(x, "aA21", 1);
        check.due("9999 and no more", x.told(2), 9999);
        check.does(x, "aA21", 1);
        check.due("as they were", x.told(2), 9999);
    }

    static void promise10_thisMonthCounts(Check check) {
        AdmiralGuinea x = new AdmiralGuinea();
        check.does(x, "aA11", 1);
        check.due("one month", x.policy(0, 3), 0);
        check.does(x, ".aA19", 2);
        check.due("nine months", x.policy(0, 3), 9);
    }

    static void promise10_whoPassesHas999AtMost(Check check) {
        AdmiralGuinea x = new AdmiralGuinea();
        check.does(x, "aA19", 1);
        x.cash(0, 998);
        check.does(x, "a0b", 1);
        check.due("999", x.told(10), 999);
        check.does(x, "b0a", 1);
        check.due("gave one", x.told(10), 998);
        x.cash(0, 999);
        check.does(x, "a0c", 1);
        check.due("no more than 999", x.told(10), 999);
        check.due("the second gave it", x.told(12), 99);
        check.due("and holds it", x.policy(0, 0), 2);
    }

    static void promise10_theSecondMayGiveHisLast(Check check) {
        AdmiralGuinea x = new AdmiralGuinea();
        check.does(x, "aA19", 1);
        x.cash(3, 1);
        check.does(x, "a0d", 1);
        check.due("nothing is left", x.told(13), 0);
        check.due("he holds it", x.policy(0, 0), 3);
    }

    static void promise10_walksTo0AndRumoursTo9(Check check) {
        AdmiralGuinea x = new AdmiralGuinea();
        check.does(x, "A+", 1);
        check.due("odds", x.told(20), 0);
        check.does(x, "F-".repeat(8), 8);
        check.due("odds", x.told(25), 9);
        for (int l = 1; l < 5; l++) check.due("the others'", x.told(20 + l), 1);
    }

    static void promise10_whoIsPaidHas999AtMost(Check check) {
        AdmiralGuinea x = new AdmiralGuinea();
        check.does(x, "aA51bA51", 2);
        x.cash(0, 949);
        x.cash(1, 950);
        x.funds(100);
        check.does(x, "Ax", 1);
        check.due("999", x.told(10), 999);
        check.due("no more than 999", x.told(11), 999);
        check.due("funds", x.told(2), 0);
    }

    static void promise10_asMuchAsFundsAreIfThatIsLess(Check check) {
        int[][] cases = {{30, 30, 0, 0}, {29, 29, 0, 0}, {31, 30, 1, 0}, {79, 30, 49, 0}, {80, 30, 50, 0},
            {81, 30, 50, 1}, {0, 0, 0, 0}, {1, 1, 0, 0}};
        for (int[] c : cases) {
            AdmiralGuinea x = new AdmiralGuinea();
            check.does(x, "bA31aA51", 2);
            x.cash(0, 0);
            x.cash(1, 0);
            x.funds(c[0]);
            check.does(x, "Ax", 1);
            check.due("the least number first, of " + c[0], x.told(11), c[1]);
            check.due("the other, of " + c[0], x.told(10), c[2]);
            check.due("funds, of " + c[0], x.told(2), c[3]);
            check.due("both are no more, of " + c[0], x.told(6), 0);
        }
    }

    static void promise10_onlyPoliciesOnTheLifeArePaid(Check check) {
        AdmiralGuinea x = new AdmiralGuinea();
        check.does(x, "aA11aB21bA31bF41", 4);
        for (int b = 0; b < 4; b++) x.cash(b, 0);
        check.does(x, "Ax", 1);
        check.due("a", x.told(10), 10);
        check.due("b", x.told(11), 30);
        check.due("left", x.told(6), 2 + 8);
        check.due("ended", x.told(4), 1);
    }

    static void promise10_aPolicyHoldsInItsLastMonth(Check check) {
        for (int t = 1; t <= 9; t++) {
            AdmiralGuinea x = new AdmiralGuinea();
            check.does(x, "aA1" + t + ".".repeat(t - 1), t);
            x.cash(0, 0);
            check.due("it is there", x.told(6), 1);
            check.does(x, "Ax", 1);
            check.due("paid", x.told(10), 10);
        }
    }

    static void promise10_aPolicyIsOverBehindItsLastMonth(Check check) {
        for (int t = 1; t <= 9; t++) {
            AdmiralGuinea x = new AdmiralGuinea();
            check.does(x, "aA1" + t + ".".repeat(t), 1 + t);
            x.cash(0, 0);
            check.due("it is no more", x.told(6), 0);
            check.does(x, "Ax", 1);
            check.due("not paid", x.told(10), 0);
        }
    }

    static void promise10_numbersAreNotGivenAnewWhileOneIsThere(Check check) {
        AdmiralGuinea x = new AdmiralGuinea();
        check.does(x, "aA11bB12aC11Ax", 4);
        check.due("given", x.told(5), 3);
        check.does(x, ".cD11", 2);
        check.due("1 and the next", x.told(6), 2 + 8);
        check.due("given", x.told(5), 4);
        check.due("number 3", x.policy(3, 1), 3);
        check.due("not 0", x.policy(0, 0), UNKNOWN);
        check.due("not 2", x.policy(2, 0), UNKNOWN);
    }

    static void promise10_numbersBeginAt0WhenAllAreOver(Check check) {
        AdmiralGuinea x = new AdmiralGuinea();
        check.does(x, "aA11bB12.", 3);
        check.due("given", x.told(5), 2);
        check.does(x, ".", 1);
        check.due("none is given", x.told(5), 0);
        check.does(x, "dF11", 1);
        check.due("the next is 0", x.policy(0, 0), 3);
    }

    static void promise10_numbersBeginAt0WhenAllArePaid(Check check) {
        AdmiralGuinea x = new AdmiralGuinea();
        check.does(x, "aA19bB19Ax", 3);
        check.due("given", x.told(5), 2);
        check.does(x, "Bx", 1);
        check.due("none is given", x.told(5), 0);
        check.does(x, "dF11", 1);
        check.due("the next is 0", x.policy(0, 0), 3);
        check.due("no other", x.told(6), 1);
    }

    static void promise10_numbersBeginAt0InTheMidstOfMonths(Check check) {
        AdmiralGuinea x = Scene.rich();
        check.does(x, "aA11".repeat(12) + "AxbB11", 14);
        check.due("policy 0", x.told(6), 1);
        check.due("given", x.told(5), 1);
        check.due("of b", x.policy(0, 0), 1);
    }

    static void promise10_sightsAndImagesAreLeft(Check check) {
        AdmiralGuinea x = Scene.busy();
        check.due("done", x.done(), 4);
        check.due("sights", x.told(3), 2);
        check.due("no image 0", x.restore(0), STATE);
        check.due("image 1", x.restore(1), 1);
        check.due("month", x.told(1), 1);
        check.due("ended", x.told(4), 32);
    }

    // ---- 11 behind

    static void promise11_whatIs0To7(Check check) {
        AdmiralGuinea x = Scene.busy();
        Scene.refused(check, x, OUTSIDE, () -> x.behind(-1), () -> x.behind(8), () -> x.behind(10), () -> x.behind(MIN),
                () -> x.behind(MAX));
    }

    static void promise11_outsideAheadOfNo(Check check) {
        AdmiralGuinea x = new AdmiralGuinea();
        check.pad(x, "!");
        check.due("behind(8)", x.behind(8), OUTSIDE);
        check.due("behind(-1)", x.behind(-1), OUTSIDE);
    }

    static void promise11_noIfThereIsAFault(Check check) {
        for (String text : new String[] {"!", "A-!", "A-a"}) {
            AdmiralGuinea x = new AdmiralGuinea();
            check.pad(x, text);
            for (int what = 0; what < 8; what++) check.due("behind of " + text, x.behind(what), NO);
        }
    }

    static void promise11_noIfAnActCanNotBe(Check check) {
        for (String text : new String[] {"a0b", "A-AxAx", "AxAxA-"}) {
            AdmiralGuinea x = new AdmiralGuinea();
            check.pad(x, text);
            for (int what = 0; what < 8; what++) check.due("behind of " + text, x.behind(what), NO);
        }
    }

    static void promise11_ofAnEmptyPad(Check check) {
        AdmiralGuinea x = new AdmiralGuinea();
        for (int b = 0; b < 4; b++) x.cash(b, 7 * b);
        int[] want = {0, 7, 14, 21, 1000, 0, 0, NONE};
        for (int what = 0; what < 8; what++) check.due("behind " + what, x.behind(what), want[what]);
    }

    static void promise11_isNotDone(Check check) {
        AdmiralGuinea x = Scene.busy();
        long[] before = Scene.shot(x);
        int[] want = {74, 241, 101, 86, 748, 2, 10, NONE};
        for (int what = 0; what < 8; what++) check.due("behind " + what, x.behind(what), want[what]);
        Scene.same(check, before, Scene.shot(x));
        check.due("cash", x.told(12), 91);
        check.due("funds", x.told(2), 744);
        check.due("month", x.told(1), 1);
    }

    static void promise11_month99(Check check) {
        AdmiralGuinea x = new AdmiralGuinea();
        check.months(x, 60);
        check.pad(x, ".".repeat(39));
        check.due("month", x.behind(5), 99);
        x.say('.');
        check.due("month 100 can not be", x.behind(5), NO);
    }

    static void promise11_cashAndFundsAtTheirMost(Check check) {
        AdmiralGuinea x = new AdmiralGuinea();
        check.does(x, "aA91dA11", 2);
        x.cash(0, 909);
        x.cash(3, 990);
        x.funds(9999);
        check.pad(x, "Ax");
        check.due("999", x.behind(0), 999);
        check.due("no more than 999", x.behind(3), 999);
        check.due("funds", x.behind(4), 9899);
        check.pad(x, "bB91");
        check.due("no more than 9999", x.behind(4), 9999);
    }

    static void promise11_nothingIsPaid(Check check) {
        AdmiralGuinea x = new AdmiralGuinea();
        check.does(x, "aA11", 1);
        check.pad(x, "Bx.Ax");
        check.due("none on B, the other is over", x.behind(6), 0);
        check.due("nothing is short", x.behind(7), NONE);
    }

    static void promise11_whatIsPaidIsCutByFunds(Check check) {
        AdmiralGuinea x = new AdmiralGuinea();
        check.does(x, "aA51bB51", 2);
        x.funds(70);
        check.pad(x, "AxBx");
        check.due("paid", x.behind(6), 70);
        check.due("funds", x.behind(4), 0);
        x.funds(0);
        check.due("nothing is there to pay", x.behind(6), 0);
    }

    static void promise11_whatIsPaidIsNotCutByCash(Check check) {
        AdmiralGuinea x = new AdmiralGuinea();
        check.does(x, "aA91", 1);
        x.cash(0, 999);
        check.pad(x, "Ax");
        check.due("paid", x.behind(6), 90);
        check.due("whole", x.behind(7), NONE);
        check.due("funds", x.behind(4), 1009 - 90);
    }

    static void promise11_whatWasPaidBeforeDoesNotCount(Check check) {
        AdmiralGuinea x = new AdmiralGuinea();
        check.does(x, "aA51bB31Ax", 3);
        check.due("nothing is paid by an empty pad", x.behind(6), 0);
        check.pad(x, "Bx");
        check.due("this alone", x.behind(6), 30);
    }

    static void promise11_theFirstActThatDoesNotPayWhole(Check check) {
        AdmiralGuinea x = new AdmiralGuinea();
        check.does(x, "aA51bB51cC51dC11", 4);
        x.funds(110);
        check.pad(x, "AxBxCx");
        check.due("the last", x.behind(7), 2);
        x.funds(100);
        check.due("nothing is left for the last", x.behind(7), 2);
        x.funds(99);
        check.due("one is wanting", x.behind(7), 1);
        x.funds(50);
        check.due("the first of two", x.behind(7), 1);
        x.funds(49);
        check.due("the first of three", x.behind(7), 0);
        x.funds(159);
        check.due("the second on that life", x.behind(7), 2);
        x.funds(160);
        check.due("all are whole", x.behind(7), NONE);
        check.due("funds", x.behind(4), 0);
    }

    static void promise11_funds0AreEnoughForNothing(Check check) {
        AdmiralGuinea x = new AdmiralGuinea();
        x.funds(0);
        check.pad(x, "AxBx");
        check.due("no sum was to be paid", x.behind(7), NONE);
        x.wipe();
        check.does(x, "aC11", 1);
        x.funds(0);
        check.pad(x, "AxBxCx");
        check.due("one was", x.behind(7), 2);
    }

    // ---- 12 policy

    static void promise12_numbers0To11(Check check) {
        AdmiralGuinea x = Scene.rich();
        check.does(x, "aA11bB22cC33dD44aE55bF66cA77dB88aC99bD11cE22dF33", 12);
        for (int p = 0; p < 12; p++) {
            check.due("holder", x.policy(p, 0), p % 4);
            check.due("life", x.policy(p, 1), p % 6);
            check.due("sum", x.policy(p, 2), 10 * (p % 9 + 1));
            check.due("till", x.policy(p, 3), p % 9);
        }
        Scene.refused(check, x, UNKNOWN, () -> x.policy(-1, 0), () -> x.policy(12, 0), () -> x.policy(32, 0),
                () -> x.policy(MIN, 0), () -> x.policy(MAX, 0));
    }

    static void promise12_whatIs0To3(Check check) {
        AdmiralGuinea x = Scene.busy();
        Scene.refused(check, x, OUTSIDE, () -> x.policy(0, -1), () -> x.policy(0, 4), () -> x.policy(2, 4),
                () -> x.policy(0, MIN), () -> x.policy(0, MAX));
    }

    static void promise12_unknownAheadOfOutside(Check check) {
        AdmiralGuinea x = Scene.busy();
        Scene.refused(check, x, UNKNOWN, () -> x.policy(3, 4), () -> x.policy(12, -1), () -> x.policy(-1, 4));
    }

    static void promise12_aNumberNotYetGivenIsUnknown(Check check) {
        AdmiralGuinea x = new AdmiralGuinea();
        check.does(x, "aA11", 1);
        check.due("policy 0", x.policy(0, 0), 0);
        for (int p = 1; p < 12; p++) check.due("policy " + p, x.policy(p, 0), UNKNOWN);
    }

    static void promise12_oneThatIsOverIsUnknown(Check check) {
        AdmiralGuinea x = new AdmiralGuinea();
        check.does(x, "aA11aA12.", 3);
        for (int what = 0; what < 4; what++) check.due("over", x.policy(0, what), UNKNOWN);
        check.due("the other is there", x.policy(1, 3), 1);
    }

    static void promise12_oneThatIsPaidIsUnknown(Check check) {
        AdmiralGuinea x = new AdmiralGuinea();
        check.does(x, "aA19aB19Ax", 3);
        for (int what = 0; what < 4; what++) check.due("paid", x.policy(0, what), UNKNOWN);
        check.due("the other is there", x.policy(1, 1), 1);
    }

    static void promise12_sums10To90(Check check) {
        AdmiralGuinea x = new AdmiralGuinea();
        check.does(x, "aA11aA91", 2);
        check.due("the least", x.policy(0, 2), 10);
        check.due("the most", x.policy(1, 2), 90);
    }

    static void promise12_till0To99(Check check) {
        AdmiralGuinea x = new AdmiralGuinea();
        check.does(x, "aA11", 1);
        check.due("the first month", x.policy(0, 3), 0);
        check.months(x, 91);
        check.does(x, "aA19", 1);
        check.due("the last month", x.policy(0, 3), 99);
    }
}
