/** Promises 29 to 32: year, image, restore, told. */
public final class YearsAndImagesTest {
    private static final int MIN = Integer.MIN_VALUE, MAX = Integer.MAX_VALUE;
    private static final Check check = new Check();

    public static void main(String[] args) {
        wrongYears();
        years();
        lateYears();
        images();
        told();
        check.end();
    }

    private static void wrongYears() {
        AdmiralGuinea x = new AdmiralGuinea();
        check.due("year(-1, 1, 0)", x.year(-1, 1, 0), -2);
        check.due("year(10000, 1, 0)", x.year(10000, 1, 0), -2);
        check.due("year(0, 0, 0)", x.year(0, 0, 0), -2);
        check.due("year(0, 61, 0)", x.year(0, 61, 0), -2);
        check.due("year(0, 1, -1)", x.year(0, 1, -1), -2);
        check.due("year(0, 1, 3)", x.year(0, 1, 3), -2);
        check.due("year(MIN, MAX, 0)", x.year(MIN, MAX, 0), -2);
    }

    private static void yearIs(AdmiralGuinea x, int seed, int m, int[] cashFundsLives) {
        for (int w = 0; w < 3; w++) {
            check.due("year(" + seed + ", " + m + ", " + w + ")", x.year(seed, m, w), cashFundsLives[w]);
        }
    }

    private static void years() {
        AdmiralGuinea x = new AdmiralGuinea();
        // 74: life 2, 12 left over by 10 is 2: lives; buyer 1 buys for 1 month at 1
        yearIs(x, 0, 1, new int[] {399, 1001, 6});
        // then 5624: life 2, 937 leaves 7; buyer 1 buys for 1 + 5 months at 5 (47 of 100)
        yearIs(x, 0, 2, new int[] {394, 1006, 6});
        x.odds(2, 3);
        // now 74 ends life 2; 5624 falls on it: nothing can be bought
        yearIs(x, 0, 2, new int[] {400, 1000, 5});
        x.odds(2, 1);
        check.does(x, "dC92", 1);
        x.cash(1, 0);
        // he has nothing to buy with
        yearIs(x, 0, 1, new int[] {300 - 18, 1018, 6});
        x.odds(2, 3);
        x.funds(50);
        yearIs(x, 0, 1, new int[] {300 - 18 + 50, 0, 5});
        check.due("month", x.told(1), 0);
        check.due("funds", x.told(2), 50);
        check.due("ended", x.told(4), 0);
        check.due("given", x.told(5), 1);
        check.due("cash", x.told(11), 0);
        check.due("signs", x.told(0), 0);
        x.say('a');
        yearIs(x, 0, 1, new int[] {300 - 18 + 50, 0, 5});
        check.due("the pad is no matter", x.told(0), 1);
        AdmiralGuinea y = new AdmiralGuinea();
        yearIs(y, 77, 60, new int[] {314, 1086, 2});
        yearIs(y, 5, 40, new int[] {303, 1097, 3});
        yearIs(y, 77, 60, new int[] {314, 1086, 2});
    }

    private static void lateYears() {
        AdmiralGuinea x = new AdmiralGuinea();
        for (int i = 0; i < 99; i++) check.does(x, ".", 1);
        // month 99: one month can be bought, six can not; and no month comes
        yearIs(x, 0, 1, new int[] {399, 1001, 6});
        yearIs(x, 0, 2, new int[] {399, 1001, 6});
        check.due("year of 60", x.year(77, 60, 2), 2);
    }

    private static void images() {
        AdmiralGuinea x = new AdmiralGuinea();
        check.due("image(-1)", x.image(-1), -2);
        check.due("image(2)", x.image(2), -2);
        check.due("restore(-1)", x.restore(-1), -2);
        check.due("restore(2)", x.restore(2), -2);
        check.due("restore(0)", x.restore(0), -3);
        check.due("image(1)", x.image(1), 1);
        check.due("restore(0)", x.restore(0), -3);
        fill(x);
        check.due("image(0)", x.image(0), 1);
        check.pad(x, "A");
        check.due("restore(1)", x.restore(1), 1);
        check.due("the pad is as it is", x.told(0), 1);
        isNew(x);
        x.wipe();
        x.say('.');
        x.say('.');
        check.due("restore(0)", x.restore(0), 1);
        check.due("the pad is as it is", x.told(0), 2);
        isFilled(x);
        spoil(x);
        check.due("restore(0)", x.restore(0), 1);
        isFilled(x);
        spoil(x);
        check.due("image(0) anew", x.image(0), 1);
        check.due("restore(1)", x.restore(1), 1);
        isNew(x);
        check.due("restore(0)", x.restore(0), 1);
        check.due("spoilt", x.told(2), 3);
        check.due("spoilt", x.told(3), 0);
    }

    private static void fill(AdmiralGuinea x) {
        x.odds(3, 4);
        x.cash(2, 200);
        x.funds(500);
        check.does(x, ".cD52aA11Ax.bE13", 6);
        x.seen(2, 3, 50);
        x.seen(1, 4, 0);
    }

    private static void isFilled(AdmiralGuinea x) {
        check.due("month", x.told(1), 2);
        check.due("funds", x.told(2), 500 + 32 + 1 - 10 + 3);
        check.due("sights", x.told(3), 2);
        check.due("ended", x.told(4), 1);
        check.due("given", x.told(5), 3);
        check.due("policies", x.told(6), 5);
        check.due("cash", x.told(12), 168);
        check.due("odds", x.told(23), 4);
        check.due("holder", x.policy(2, 0), 1);
        check.due("life", x.policy(2, 1), 4);
        check.due("sum", x.policy(2, 2), 10);
        check.due("till", x.policy(2, 3), 4);
        check.due("sum", x.policy(0, 2), 50);
        check.due("liars", x.liars(0), 3);
        check.due("liars", x.liars(1), 4);
    }

    private static void isNew(AdmiralGuinea x) {
        int[] want = {0, 1000, 0, 0, 0, 0};
        for (int w = 1; w <= 6; w++) check.due("told " + w, x.told(w), want[w - 1]);
        for (int b = 0; b < 4; b++) check.due("cash", x.told(10 + b), 100);
        for (int l = 0; l < 6; l++) check.due("odds", x.told(20 + l), 1);
    }

    private static void spoil(AdmiralGuinea x) {
        x.forget();
        x.seen(0, 0, 999);
        x.forget();
        check.does(x, "DxEx.dB39dB39", 5);
        for (int l = 0; l < 6; l++) x.odds(l, 8);
        for (int b = 0; b < 4; b++) x.cash(b, 7);
        x.funds(3);
    }

    private static void told() {
        AdmiralGuinea x = new AdmiralGuinea();
        int[] outside = {MIN, -1, 7, 8, 9, 14, 15, 19, 26, 30, MAX};
        for (int w : outside) check.due("told(" + w + ")", x.told(w), -2);
        check.does(x, "aA19bB28.FxB-", 5);
        check.pad(x, "a");
        x.seen(0, 0, 0);
        x.cash(3, 42);
        int[] want = {1, 1, 1000 + 7 + 12, 1, 32, 2, 3};
        for (int w = 0; w <= 6; w++) check.due("told(" + w + ")", x.told(w), want[w]);
        check.due("told(10)", x.told(10), 93);
        check.due("told(11)", x.told(11), 88);
        check.due("told(12)", x.told(12), 100);
        check.due("told(13)", x.told(13), 42);
        check.due("told(20)", x.told(20), 1);
        check.due("told(21)", x.told(21), 2);
        check.due("told(25)", x.told(25), 1);
    }
}
