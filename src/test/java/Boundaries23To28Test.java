/** The boundary cases that promises 23 to 28 and their terms name: seen, forget, liars, ask, pass, bets. */
public final class Boundaries23To28Test {
    private static final int NONE = Scene.NONE, UNKNOWN = Scene.UNKNOWN, OUTSIDE = Scene.OUTSIDE, FULL = Scene.FULL,
            MIN = Scene.MIN, MAX = Scene.MAX;
    private static final long LOST = AdmiralGuinea.LOST;

    public static void main(String[] args) {
        Named.run(Boundaries23To28Test.class, 23, 28);
    }

    // ---- 23 seen

    static void promise23_noBuyerBelow0OrAbove3(Check check) {
        AdmiralGuinea x = Scene.busy();
        Scene.refused(check, x, UNKNOWN, () -> x.seen(-1, 0, 0), () -> x.seen(4, 0, 0), () -> x.seen(MIN, 0, 0),
                () -> x.seen(MAX, 0, 0));
        check.due("the last buyer", x.seen(3, 0, 0), 3);
    }

    static void promise23_noLifeBelow0OrAbove5(Check check) {
        AdmiralGuinea x = Scene.busy();
        Scene.refused(check, x, UNKNOWN, () -> x.seen(0, -1, 0), () -> x.seen(0, 6, 0), () -> x.seen(0, MIN, 0),
                () -> x.seen(0, MAX, 0));
        check.due("the last life, though it has ended", x.seen(0, 5, 0), 3);
    }

    static void promise23_gains0To999(Check check) {
        AdmiralGuinea x = Scene.busy();
        Scene.refused(check, x, OUTSIDE, () -> x.seen(0, 0, -1), () -> x.seen(0, 0, 1000), () -> x.seen(0, 0, MIN),
                () -> x.seen(0, 0, MAX));
        check.due("0", x.seen(0, 0, 0), 3);
        check.due("999", x.seen(0, 0, 999), 4);
    }

    static void promise23_eightAtMost(Check check) {
        AdmiralGuinea x = new AdmiralGuinea();
        for (int n = 1; n <= 8; n++) check.due("seen", x.seen(0, 0, 0), n);
        Scene.refused(check, x, FULL, () -> x.seen(0, 0, 0), () -> x.seen(3, 5, 999));
        check.due("eight", x.told(3), 8);
        check.due("the ninth is not believed", x.liars(2), 1);
    }

    static void promise23_unknownThenOutsideThenFull(Check check) {
        AdmiralGuinea x = new AdmiralGuinea();
        for (int n = 1; n <= 8; n++) x.seen(0, 0, 0);
        check.due("unknown ahead of outside", x.seen(4, 0, 1000), UNKNOWN);
        check.due("unknown ahead of outside", x.seen(0, 6, -1), UNKNOWN);
        check.due("outside ahead of full", x.seen(0, 0, 1000), OUTSIDE);
        check.due("eight still", x.told(3), 8);
    }

    static void promise23_theEighthCounts(Check check) {
        AdmiralGuinea x = new AdmiralGuinea();
        for (int n = 1; n <= 7; n++) x.seen(0, 0, 0);
        check.due("the book may be right", x.liars(2), 1);
        check.due("seen", x.seen(0, 0, 10), 8);
        check.due("it can not", x.liars(2), 0);
    }

    // ---- 24 forget

    static void promise24_thereWereNone(Check check) {
        AdmiralGuinea x = new AdmiralGuinea();
        check.due("forget", x.forget(), 0);
        check.due("forget", x.forget(), 0);
    }

    static void promise24_thereWereEight(Check check) {
        AdmiralGuinea x = new AdmiralGuinea();
        for (int n = 1; n <= 8; n++) x.seen(0, 0, 999);
        check.due("forget", x.forget(), 8);
        check.due("sights", x.told(3), 0);
        check.due("nothing is against the book", x.liars(2), 1);
        check.due("there is room again", x.seen(0, 0, 0), 1);
        check.due("what was said first is not heard again", x.liars(2), 1);
    }

    static void promise24_onlySightsGo(Check check) {
        AdmiralGuinea x = Scene.busy();
        check.due("forget", x.forget(), 2);
        check.due("signs", x.told(0), 10);
        check.due("month", x.told(1), 1);
        check.due("ended", x.told(4), 32);
        check.due("policies", x.told(6), 7);
        check.due("image", x.restore(1), 1);
        check.due("and those that it has kept", x.told(3), 2);
    }

    // ---- 25 liars

    private static void liarsAre(Check check, AdmiralGuinea x, int many, int which, int right) {
        check.due("liars(0)", x.liars(0), many);
        check.due("liars(1)", x.liars(1), which);
        check.due("liars(2)", x.liars(2), right);
    }

    static void promise25_whatIs0To2(Check check) {
        AdmiralGuinea x = Scene.busy();
        Scene.refused(check, x, OUTSIDE, () -> x.liars(-1), () -> x.liars(3), () -> x.liars(MIN), () -> x.liars(MAX));
    }

    static void promise25_noPolicies(Check check) {
        AdmiralGuinea x = new AdmiralGuinea();
        liarsAre(check, x, 1, 0, 1);
        x.seen(3, 5, 0);
        liarsAre(check, x, 1, 0, 1);
        x.seen(3, 5, 1);
        liarsAre(check, x, 0, 0, 0);
    }

    static void promise25_noSights(Check check) {
        AdmiralGuinea x = new AdmiralGuinea();
        check.does(x, "dF11", 1);
        liarsAre(check, x, 4, 1, 1);
        check.does(x, "aA11", 1);
        liarsAre(check, x, 7, 3, 1);
    }

    static void promise25_allTwelvePolicies(Check check) {
        AdmiralGuinea x = Scene.twelve(check);
        liarsAre(check, x, 37, 4095, 1);
        x.seen(0, 0, 990);
        liarsAre(check, x, 36, 4095, 0);
        x.seen(3, 0, 90);
        liarsAre(check, x, 12, 4095, 0);
    }

    static void promise25_gainsAbove999CanNotBeSaid(Check check) {
        AdmiralGuinea x = Scene.twelve(check);
        x.seen(0, 0, 999);
        liarsAre(check, x, 0, 0, 0);
    }

    static void promise25_onePolicyAtMostIsAnothers(Check check) {
        AdmiralGuinea x = new AdmiralGuinea();
        check.does(x, "aA11aB11", 2);
        x.seen(1, 0, 10);
        liarsAre(check, x, 1, 1, 0);
        x.seen(1, 1, 10);
        liarsAre(check, x, 0, 0, 0);
    }

    static void promise25_sightsOneGuineaOff(Check check) {
        int[] said = {19, 20, 21};
        int[] right = {0, 1, 0};
        for (int i = 0; i < 3; i++) {
            AdmiralGuinea x = new AdmiralGuinea();
            check.does(x, "aA21", 1);
            x.seen(0, 0, said[i]);
            liarsAre(check, x, right[i], 0, right[i]);
        }
    }

    static void promise25_policiesThatAreNoMoreDoNotCount(Check check) {
        AdmiralGuinea x = new AdmiralGuinea();
        check.does(x, "aA11bB12cC12Cx.", 5);
        liarsAre(check, x, 4, 2, 1);
        check.does(x, ".", 1);
        liarsAre(check, x, 1, 0, 1);
    }

    static void promise25_anotherIsNotTheHolder(Check check) {
        for (int b = 0; b < 4; b++) {
            AdmiralGuinea x = new AdmiralGuinea();
            check.does(x, "abcd".charAt(b) + "F11", 1);
            x.seen(b, 5, 10);
            liarsAre(check, x, 1, 0, 1);
            x.forget();
            x.seen(b, 5, 0);
            liarsAre(check, x, 3, 1, 0);
        }
    }

    static void promise25_everyOtherBuyer(Check check) {
        for (int b = 0; b < 4; b++) {
            for (int other = 0; other < 4; other++) {
                if (b != other) {
                    AdmiralGuinea x = Scene.rich();
                    check.does(x, ("abcd".charAt(b) + "A11") + "aB11".repeat(10) + "abcd".charAt(b) + "F11", 12);
                    x.seen(other, 0, 10);
                    liarsAre(check, x, 1, 1, 0);
                    x.forget();
                    x.seen(other, 5, 10);
                    liarsAre(check, x, 1, 2048, 0);
                }
            }
        }
    }

    // ---- 26 ask

    private static void asksAre(Check check, AdmiralGuinea x, int whom, int left) {
        check.due("ask(0)", x.ask(0), whom);
        check.due("ask(1)", x.ask(1), left);
    }

    static void promise26_whatIs0Or1(Check check) {
        AdmiralGuinea x = Scene.busy();
        Scene.refused(check, x, OUTSIDE, () -> x.ask(-1), () -> x.ask(2), () -> x.ask(MIN), () -> x.ask(MAX));
        x.seen(0, 0, 999);
        check.due("outside though there are no worlds", x.ask(2), OUTSIDE);
    }

    static void promise26_noneIfThereAreNoWorlds(Check check) {
        AdmiralGuinea x = new AdmiralGuinea();
        x.seen(0, 0, 1);
        asksAre(check, x, NONE, NONE);
        x.forget();
        asksAre(check, x, 0, 1);
    }

    static void promise26_oneWorldIsLeft(Check check) {
        AdmiralGuinea x = new AdmiralGuinea();
        asksAre(check, x, 0, 1);
        check.does(x, "dF11", 1);
        x.seen(2, 5, 10);
        asksAre(check, x, 0, 1);
    }

    static void promise26_theFirstOfAsFew(Check check) {
        AdmiralGuinea x = new AdmiralGuinea();
        check.does(x, "dF11", 1);
        // a, b, c or d may be asked: 3 are left at the most
        asksAre(check, x, 5, 3);
        x.seen(0, 5, 0);
        asksAre(check, x, 15, 2);
        x.seen(1, 5, 0);
        asksAre(check, x, 25, 1);
    }

    static void promise26_theLastOfAll(Check check) {
        AdmiralGuinea x = new AdmiralGuinea();
        check.does(x, "dF11dF21dF31", 3);
        // d: 60 in one world, 50, 40, 30 in three each; of the others each: 0 in seven
        asksAre(check, x, 35, 3);
    }

    static void promise26_allTwelvePolicies(Check check) {
        AdmiralGuinea x = Scene.twelve(check);
        // a: 1080 in one, 990 in 36; b: 90 in 12, 0 in 25
        asksAre(check, x, 10, 25);
        x.seen(0, 0, 990);
        asksAre(check, x, 10, 24);
        x.seen(1, 0, 0);
        asksAre(check, x, 20, 12);
    }

    static void promise26_gainsAbove999(Check check) {
        AdmiralGuinea x = Scene.twelve(check);
        for (int b = 1; b < 4; b++) x.seen(b, 0, 0);
        // the book alone is left: a gains 1080
        asksAre(check, x, 0, 1);
    }

    // ---- 27 pass

    static void promise27_digits0To6(Check check) {
        AdmiralGuinea x = new AdmiralGuinea();
        check.due("0000", x.pass(0), 0);
        check.due("6666", x.pass(6666), 0);
        check.due("0006", x.pass(6), 0);
        check.due("6000", x.pass(6000), 0);
        check.due("0123", x.pass(123), 0);
        check.due("3456", x.pass(3456), 0);
    }

    static void promise27_digitsAbove6AreOutside(Check check) {
        AdmiralGuinea x = Scene.busy();
        Scene.refused(check, x, OUTSIDE, () -> x.pass(7), () -> x.pass(9), () -> x.pass(70), () -> x.pass(1090),
                () -> x.pass(700), () -> x.pass(6900), () -> x.pass(7000), () -> x.pass(9000), () -> x.pass(6667),
                () -> x.pass(9999));
    }

    static void promise27_moreThanFourDigitsOrLessThan0(Check check) {
        AdmiralGuinea x = Scene.busy();
        Scene.refused(check, x, OUTSIDE, () -> x.pass(10000), () -> x.pass(16666), () -> x.pass(-1),
                () -> x.pass(-6666), () -> x.pass(MIN), () -> x.pass(MAX));
    }

    static void promise27_itIsSoAlready(Check check) {
        AdmiralGuinea x = new AdmiralGuinea();
        check.does(x, "aA11bB11cC11dF11aA21", 5);
        check.due("no pass", x.pass(125), 0);
    }

    static void promise27_allTwelve(Check check) {
        AdmiralGuinea x = Scene.twelve(check);
        check.due("a wants them", x.pass(666), 0);
        check.due("b wants them", x.pass(6066), 12);
        check.due("d wants them", x.pass(6660), 12);
    }

    static void promise27_noneIfNobodyWantsOne(Check check) {
        AdmiralGuinea x = new AdmiralGuinea();
        check.does(x, "aA11dF11", 2);
        check.due("nobody wants F", x.pass(666), NONE);
        check.due("nobody wants A", x.pass(6665), NONE);
        check.due("nobody wants any", x.pass(6666), NONE);
        check.due("both are wanted", x.pass(665), 0);
    }

    static void promise27_noneIfMoreThanOneWantThem(Check check) {
        AdmiralGuinea x = new AdmiralGuinea();
        check.does(x, "aA11", 1);
        check.due("a and d", x.pass(660), NONE);
        check.due("c and d", x.pass(6600), NONE);
        check.due("all", x.pass(0), NONE);
        check.due("a alone", x.pass(666), 0);
        check.due("two want what is not there", x.pass(155), 0);
    }

    static void promise27_policiesThatAreNoMoreDoNotCount(Check check) {
        AdmiralGuinea x = new AdmiralGuinea();
        check.does(x, "aA11bB12cC12Cx.", 5);
        check.due("B alone", x.pass(1666), 1);
        check.due("nobody wants B", x.pass(266), NONE);
        check.does(x, ".", 1);
        check.due("none is there", x.pass(6666), 0);
    }

    static void promise27_cashIsNoMatter(Check check) {
        AdmiralGuinea x = new AdmiralGuinea();
        check.does(x, "aA11", 1);
        for (int b = 0; b < 4; b++) x.cash(b, 0);
        Scene.refused(check, x, 1, () -> x.pass(6066));
    }

    // ---- 28 bets

    private static void betIs(Check check, int[] nkt, long upper, long lower) {
        AdmiralGuinea x = new AdmiralGuinea();
        check.fraction("bets " + nkt[0] + " " + nkt[1] + " " + nkt[2], x.bets(nkt[0], nkt[1], nkt[2], 0),
                x.bets(nkt[0], nkt[1], nkt[2], 1), upper, lower);
    }

    static void promise28_ships0To12(Check check) {
        AdmiralGuinea x = Scene.busy();
        Scene.refused(check, x, LOST + OUTSIDE, () -> x.bets(-1, 0, 1, 0), () -> x.bets(13, 0, 1, 0),
                () -> x.bets(MIN, 0, 1, 1), () -> x.bets(MAX, 0, 1, 1), () -> x.bets(-1, -1, 1, 0));
        betIs(check, new int[] {0, 0, 5}, 1, 1);
        betIs(check, new int[] {12, 12, 1}, 1, 1000000000000L);
    }

    static void promise28_kFrom0ToN(Check check) {
        AdmiralGuinea x = Scene.busy();
        Scene.refused(check, x, LOST + OUTSIDE, () -> x.bets(5, -1, 1, 0), () -> x.bets(5, 6, 1, 0),
                () -> x.bets(0, 1, 1, 0), () -> x.bets(12, 13, 1, 1), () -> x.bets(5, MIN, 1, 1),
                () -> x.bets(5, MAX, 1, 1));
        betIs(check, new int[] {5, 0, 5}, 1, 32);
        betIs(check, new int[] {5, 5, 5}, 1, 32);
        betIs(check, new int[] {12, 0, 9}, 1, 1000000000000L);
    }

    static void promise28_tenths0To10(Check check) {
        AdmiralGuinea x = Scene.busy();
        Scene.refused(check, x, LOST + OUTSIDE, () -> x.bets(5, 0, -1, 0), () -> x.bets(5, 0, 11, 0),
                () -> x.bets(0, 0, 11, 1), () -> x.bets(5, 0, MIN, 1), () -> x.bets(5, 0, MAX, 1));
    }

    static void promise28_partIs0Or1(Check check) {
        AdmiralGuinea x = Scene.busy();
        Scene.refused(check, x, LOST + OUTSIDE, () -> x.bets(5, 0, 1, -1), () -> x.bets(5, 0, 1, 2),
                () -> x.bets(5, 0, 1, MIN), () -> x.bets(5, 0, 1, MAX));
    }

    static void promise28_noShips(Check check) {
        for (int t = 0; t <= 10; t++) betIs(check, new int[] {0, 0, t}, 1, 1);
    }

    static void promise28_shipsThatNeverCome(Check check) {
        betIs(check, new int[] {12, 0, 0}, 1, 1);
        betIs(check, new int[] {12, 1, 0}, 0, 1);
        betIs(check, new int[] {12, 12, 0}, 0, 1);
    }

    static void promise28_shipsThatAlwaysCome(Check check) {
        betIs(check, new int[] {12, 12, 10}, 1, 1);
        betIs(check, new int[] {12, 11, 10}, 0, 1);
        betIs(check, new int[] {12, 0, 10}, 0, 1);
    }

    static void promise28_inLowestTerms(Check check) {
        betIs(check, new int[] {12, 6, 5}, 231, 1024);
        // 12 times 9^11 of 10^12
        betIs(check, new int[] {12, 1, 1}, 94143178827L, 250000000000L);
        betIs(check, new int[] {1, 1, 2}, 1, 5);
        betIs(check, new int[] {12, 0, 1}, 282429536481L, 1000000000000L);
    }
}
