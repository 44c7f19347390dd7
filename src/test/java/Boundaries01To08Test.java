/** The boundary cases that promises 1 to 8 and their terms name: a new object, lives, buyers, the pad. */
public final class Boundaries01To08Test {
    private static final int NONE = Scene.NONE, UNKNOWN = Scene.UNKNOWN, OUTSIDE = Scene.OUTSIDE,
            STATE = Scene.STATE, FULL = Scene.FULL, MIN = Scene.MIN, MAX = Scene.MAX;

    public static void main(String[] args) {
        Named.run(Boundaries01To08Test.class, 1, 8);
    }

    // ---- 1 a new object

    static void promise01_monthIs0(Check check) {
        AdmiralGuinea x = new AdmiralGuinea();
        check.due("month", x.told(1), 0);
        check.due("month of an empty pad", x.behind(5), 0);
    }

    static void promise01_noPolicies(Check check) {
        AdmiralGuinea x = new AdmiralGuinea();
        check.due("numbers", x.told(5), 0);
        check.due("policies", x.told(6), 0);
        for (int p = 0; p < 12; p++) {
            for (int what = 0; what < 4; what++) check.due("policy", x.policy(p, what), UNKNOWN);
        }
        for (int b = 0; b < 4; b++) {
            for (int l = 0; l < 6; l++) check.due("gains", x.gains(b, l), 0);
        }
    }

    static void promise01_noneEndedAtFirst(Check check) {
        AdmiralGuinea x = new AdmiralGuinea();
        check.due("ended", x.told(4), 0);
        for (int l = 0; l < 6; l++) check.due("heir", x.heir(l), STATE);
    }

    static void promise01_odds1AtFirst(Check check) {
        AdmiralGuinea x = new AdmiralGuinea();
        for (int l = 0; l < 6; l++) check.due("odds", x.told(20 + l), 1);
    }

    static void promise01_cash100AtFirst(Check check) {
        AdmiralGuinea x = new AdmiralGuinea();
        for (int b = 0; b < 4; b++) check.due("cash", x.told(10 + b), 100);
    }

    static void promise01_funds1000AtFirst(Check check) {
        AdmiralGuinea x = new AdmiralGuinea();
        check.due("funds", x.told(2), 1000);
    }

    static void promise01_noSignsNoSightsNoImages(Check check) {
        AdmiralGuinea x = new AdmiralGuinea();
        check.due("signs", x.told(0), 0);
        check.due("fault", x.fault(), NONE);
        check.due("sights", x.told(3), 0);
        check.due("image 0", x.restore(0), STATE);
        check.due("image 1", x.restore(1), STATE);
    }

    static void promise01_twoObjectsShareNothing(Check check) {
        AdmiralGuinea x = new AdmiralGuinea();
        AdmiralGuinea y = Scene.busy();
        y.image(0);
        check.due("signs", x.told(0), 0);
        check.due("ended", x.told(4), 0);
        check.due("policies", x.told(6), 0);
        check.due("sights", x.told(3), 0);
        check.due("image", x.restore(1), STATE);
        long[] before = Scene.shot(y);
        x.funds(1);
        x.cash(0, 1);
        x.odds(0, 9);
        x.forget();
        Scene.same(check, before, Scene.shot(y));
    }

    static void promise01_aCallIsAnsweredUpToThe512th(Check check) {
        AdmiralGuinea x = new AdmiralGuinea();
        for (int call = 1; call <= 512; call++) {
            int v = call % 1000;
            check.due("call " + call, x.cash(3, v), call == 1 ? 100 : call - 1);
        }
        AdmiralGuinea y = new AdmiralGuinea();
        for (int call = 1; call <= 512; call++) check.due("call " + call, y.image(call % 2), 1);
    }

    // ---- 2 odds

    static void promise02_from0To9(Check check) {
        AdmiralGuinea x = new AdmiralGuinea();
        for (int l = 0; l < 6; l++) {
            check.due("0 is the least", x.odds(l, 0), 1);
            check.due("were 0", x.odds(l, 9), 0);
            check.due("9 is the most", x.told(20 + l), 9);
            check.due("were 9", x.odds(l, 9), 9);
        }
    }

    static void promise02_below0AreOutside(Check check) {
        AdmiralGuinea x = Scene.busy();
        Scene.refused(check, x, OUTSIDE, () -> x.odds(0, -1), () -> x.odds(5, -1), () -> x.odds(0, MIN));
    }

    static void promise02_above9AreOutside(Check check) {
        AdmiralGuinea x = Scene.busy();
        Scene.refused(check, x, OUTSIDE, () -> x.odds(0, 10), () -> x.odds(5, 10), () -> x.odds(0, MAX));
    }

    static void promise02_noLifeBelow0OrAbove5(Check check) {
        AdmiralGuinea x = Scene.busy();
        Scene.refused(check, x, UNKNOWN, () -> x.odds(-1, 3), () -> x.odds(6, 3), () -> x.odds(32, 3),
                () -> x.odds(MIN, 3), () -> x.odds(MAX, 3));
    }

    static void promise02_unknownAheadOfOutside(Check check) {
        AdmiralGuinea x = Scene.busy();
        Scene.refused(check, x, UNKNOWN, () -> x.odds(6, 10), () -> x.odds(-1, -1));
    }

    static void promise02_beItThatItHasEnded(Check check) {
        AdmiralGuinea x = new AdmiralGuinea();
        check.does(x, "Ax", 1);
        check.due("were 1", x.odds(0, 9), 1);
        check.due("were 9", x.odds(0, 0), 9);
        check.due("odds", x.told(20), 0);
        check.due("it has ended still", x.told(4), 1);
    }

    // ---- 3 heir

    static void promise03_oneThatHasNotEndedIsState(Check check) {
        AdmiralGuinea x = Scene.busy();
        Scene.refused(check, x, STATE, () -> x.heir(0), () -> x.heir(4));
    }

    static void promise03_noLifeBelow0OrAbove5(Check check) {
        AdmiralGuinea x = Scene.busy();
        Scene.refused(check, x, UNKNOWN, () -> x.heir(-1), () -> x.heir(6), () -> x.heir(37), () -> x.heir(MIN),
                () -> x.heir(MAX));
    }

    static void promise03_aSecondHeirIsState(Check check) {
        AdmiralGuinea x = new AdmiralGuinea();
        check.does(x, "Fx", 1);
        check.due("heir", x.heir(5), 6);
        check.due("heir of the heir", x.heir(5), STATE);
        check.does(x, "Fx", 1);
        check.due("heir, for it has ended again", x.heir(5), 6);
    }

    static void promise03_whenAllSixHaveEnded(Check check) {
        AdmiralGuinea x = new AdmiralGuinea();
        check.does(x, "AxBxCxDxExFx", 6);
        check.due("all", x.told(4), 63);
        for (int l = 5; l >= 0; l--) check.due("how many have not", x.heir(l), 6 - l);
        check.due("none", x.told(4), 0);
    }

    static void promise03_oddsAsTheyWere(Check check) {
        AdmiralGuinea x = new AdmiralGuinea();
        x.odds(0, 0);
        x.odds(1, 9);
        check.does(x, "AxBxCx", 3);
        x.odds(2, 5);
        for (int l = 0; l < 3; l++) x.heir(l);
        check.due("0", x.told(20), 0);
        check.due("9", x.told(21), 9);
        check.due("as they were told meanwhile", x.told(22), 5);
    }

    static void promise03_theHeirIsInsuredAnew(Check check) {
        AdmiralGuinea x = new AdmiralGuinea();
        check.does(x, "aA99Ax", 2);
        x.heir(0);
        check.due("what was on the first is paid", x.gains(0, 0), 0);
        check.does(x, "aA21Ax", 2);
        check.due("and the heir can end", x.told(4), 1);
    }

    // ---- 4 cash

    static void promise04_from0To999(Check check) {
        AdmiralGuinea x = new AdmiralGuinea();
        for (int b = 0; b < 4; b++) {
            check.due("0 is the least", x.cash(b, 0), 100);
            check.due("was 0", x.cash(b, 999), 0);
            check.due("999 is the most", x.told(10 + b), 999);
            check.due("was 999", x.cash(b, 999), 999);
        }
    }

    static void promise04_below0IsOutside(Check check) {
        AdmiralGuinea x = Scene.busy();
        Scene.refused(check, x, OUTSIDE, () -> x.cash(0, -1), () -> x.cash(3, -1), () -> x.cash(3, MIN));
    }

    static void promise04_above999IsOutside(Check check) {
        AdmiralGuinea x = Scene.busy();
        Scene.refused(check, x, OUTSIDE, () -> x.cash(0, 1000), () -> x.cash(3, 1000), () -> x.cash(3, MAX));
    }

    static void promise04_noBuyerBelow0OrAbove3(Check check) {
        AdmiralGuinea x = Scene.busy();
        Scene.refused(check, x, UNKNOWN, () -> x.cash(-1, 5), () -> x.cash(4, 5), () -> x.cash(MIN, 5),
                () -> x.cash(MAX, 5));
    }

    static void promise04_unknownAheadOfOutside(Check check) {
        AdmiralGuinea x = Scene.busy();
        Scene.refused(check, x, UNKNOWN, () -> x.cash(4, 1000), () -> x.cash(-1, -1));
    }

    // ---- 5 funds

    static void promise05_from0To9999(Check check) {
        AdmiralGuinea x = new AdmiralGuinea();
        check.due("0 is the least", x.funds(0), 1000);
        check.due("were 0", x.funds(9999), 0);
        check.due("9999 is the most", x.told(2), 9999);
        check.due("were 9999", x.funds(9999), 9999);
    }

    static void promise05_below0AreOutside(Check check) {
        AdmiralGuinea x = Scene.busy();
        Scene.refused(check, x, OUTSIDE, () -> x.funds(-1), () -> x.funds(MIN));
    }

    static void promise05_above9999AreOutside(Check check) {
        AdmiralGuinea x = Scene.busy();
        Scene.refused(check, x, OUTSIDE, () -> x.funds(10000), () -> x.funds(MAX));
    }

    // ---- 6 say

    static void promise06_codes33To126(Check check) {
        for (int sign = 33; sign <= 126; sign++) {
            AdmiralGuinea x = new AdmiralGuinea();
            check.due("say(" + sign + ")", x.say(sign), 1);
            check.due("signs", x.told(0), 1);
        }
    }

    static void promise06_codesBelow33AreOutside(Check check) {
        AdmiralGuinea x = Scene.busy();
        Scene.refused(check, x, OUTSIDE, () -> x.say(32), () -> x.say(0), () -> x.say(-1), () -> x.say(MIN));
    }

    static void promise06_codesAbove126AreOutside(Check check) {
        AdmiralGuinea x = Scene.busy();
        Scene.refused(check, x, OUTSIDE, () -> x.say(127), () -> x.say(256 + 'A'), () -> x.say(65536 + '.'),
                () -> x.say(MAX));
    }

    static void promise06_sixtySignsAtMost(Check check) {
        AdmiralGuinea x = new AdmiralGuinea();
        for (int n = 1; n <= 60; n++) check.due("say", x.say('.'), n);
        Scene.refused(check, x, FULL, () -> x.say('.'), () -> x.say('!'), () -> x.say(126));
        check.due("all 60 count", x.done(), 60);
    }

    static void promise06_outsideAheadOfFull(Check check) {
        AdmiralGuinea x = new AdmiralGuinea();
        check.pad(x, ".".repeat(60));
        Scene.refused(check, x, OUTSIDE, () -> x.say(32), () -> x.say(127));
    }

    static void promise06_roomAgainWhenSignsAreGone(Check check) {
        AdmiralGuinea x = new AdmiralGuinea();
        check.pad(x, ".".repeat(60));
        x.wipe();
        check.due("behind wipe", x.say('.'), 1);
        check.due("done", x.done(), 1);
        check.pad(x, "A-A+".repeat(15));
        check.due("full", x.say('.'), FULL);
        check.due("done", x.done(), 30);
        check.due("behind done", x.say('.'), 1);
    }

    // ---- 7 wipe

    static void promise07_thereWereNone(Check check) {
        AdmiralGuinea x = new AdmiralGuinea();
        check.due("wipe", x.wipe(), 0);
        check.due("wipe", x.wipe(), 0);
        check.due("signs", x.told(0), 0);
    }

    static void promise07_thereWereSixty(Check check) {
        AdmiralGuinea x = new AdmiralGuinea();
        check.pad(x, "!".repeat(60));
        check.due("wipe", x.wipe(), 60);
        check.due("signs", x.told(0), 0);
        check.due("no fault", x.fault(), NONE);
        check.due("nothing to do", x.done(), 0);
        check.due("wipe", x.wipe(), 0);
    }

    static void promise07_onlySignsGo(Check check) {
        AdmiralGuinea x = Scene.busy();
        check.due("wipe", x.wipe(), 10);
        check.due("month", x.told(1), 1);
        check.due("funds", x.told(2), 700 + 25 + 10 + 9);
        check.due("sights", x.told(3), 2);
        check.due("ended", x.told(4), 32);
        check.due("policies", x.told(6), 7);
        check.due("odds", x.told(23), 7);
        check.due("image", x.restore(1), 1);
    }

    // ---- 8 fault

    private static void faultOf(Check check, String text, int want) {
        AdmiralGuinea x = new AdmiralGuinea();
        check.pad(x, text);
        check.due("fault of " + text, x.fault(), want);
        check.due("signs of " + text, x.told(0), text.length());
    }

    static void promise08_nothingIsNoFault(Check check) {
        faultOf(check, "", NONE);
    }

    static void promise08_buyersAreAToD(Check check) {
        faultOf(check, "aA11dA11a0dd0a", NONE);
        faultOf(check, "eA11", 0);
        faultOf(check, "`A11", 0);
        faultOf(check, "a0e", 2);
        faultOf(check, "a0`", 2);
        faultOf(check, "a0D", 2);
    }

    static void promise08_livesAreAToF(Check check) {
        faultOf(check, "aA11aF11A+F-AxFx", NONE);
        faultOf(check, "G+", 0);
        faultOf(check, "@+", 0);
        faultOf(check, "aG11", 1);
        faultOf(check, "a@11", 1);
        faultOf(check, "af11", 1);
    }

    static void promise08_tensAre1To9(Check check) {
        faultOf(check, "aA11aA91", NONE);
        faultOf(check, "aA01", 2);
        faultOf(check, "aA/1", 2);
        faultOf(check, "aA:1", 2);
    }

    static void promise08_monthsOfAPolicyAre1To9(Check check) {
        faultOf(check, "aA11aA19", NONE);
        faultOf(check, "aA10", 3);
        faultOf(check, "aA1/", 3);
        faultOf(check, "aA1:", 3);
    }

    static void promise08_aPolicyIsPassedByADigit0To9(Check check) {
        faultOf(check, "a0ba9b", NONE);
        faultOf(check, "a/b", 1);
        faultOf(check, "a:b", 1);
        faultOf(check, "a10b", 2);
        faultOf(check, "a11b", 2);
    }

    static void promise08_aLifeWalksIsTalkedOfOrEnds(Check check) {
        faultOf(check, "A+A-Ax", NONE);
        faultOf(check, "AX", 1);
        faultOf(check, "A.", 1);
        faultOf(check, "A*", 1);
        faultOf(check, "A,", 1);
        faultOf(check, "Ay", 1);
        faultOf(check, "Aw", 1);
        faultOf(check, "AA", 1);
        faultOf(check, "Aa", 1);
    }

    static void promise08_aPointIsAnActOfItsOwn(Check check) {
        faultOf(check, ".", NONE);
        faultOf(check, "....", NONE);
        faultOf(check, ".+", 1);
        faultOf(check, ".1", 1);
        faultOf(check, "-", 0);
        faultOf(check, "/", 0);
    }

    static void promise08_theFirstSignThatCanNotStandThere(Check check) {
        faultOf(check, "!!!", 0);
        faultOf(check, ".!..!", 1);
        faultOf(check, "aA11e0b!", 4);
        faultOf(check, "aA1!", 3);
        faultOf(check, "A+A!A", 3);
    }

    static void promise08_theNumberOfSignsIfMoreMustCome(Check check) {
        faultOf(check, "a", 1);
        faultOf(check, "aA", 2);
        faultOf(check, "aA1", 3);
        faultOf(check, "a0", 2);
        faultOf(check, "A", 1);
        faultOf(check, ".A+F", 4);
        faultOf(check, "aA11bB2", 7);
    }

    static void promise08_onAFullPad(Check check) {
        faultOf(check, "aA11".repeat(15), NONE);
        faultOf(check, ".".repeat(59) + "!", 59);
        faultOf(check, ".".repeat(59) + "A", 60);
        faultOf(check, ".".repeat(57) + "dF9", 60);
        faultOf(check, "!" + ".".repeat(59), 0);
    }

    static void promise08_anActThatCanNotBeIsNoFault(Check check) {
        faultOf(check, "AxAx", NONE);
        faultOf(check, "a9b", NONE);
        faultOf(check, "a0a", NONE);
        faultOf(check, "A+A+", NONE);
        faultOf(check, "aA99".repeat(13), NONE);
        AdmiralGuinea x = Scene.late(check);
        check.pad(x, ".");
        check.due("beyond month 99", x.fault(), NONE);
    }

    static void promise08_signsThatAreGoneAreNoFault(Check check) {
        AdmiralGuinea x = new AdmiralGuinea();
        check.pad(x, ".!");
        x.wipe();
        check.due("fault", x.fault(), NONE);
        x.say('.');
        check.due("fault", x.fault(), NONE);
    }
}
