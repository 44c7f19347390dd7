/** Promises 17 to 22: best, buys, voids, ruin, tells, parts. */
public final class OffersAndRuinTest {
    private static final long LOST = AdmiralGuinea.LOST;
    private static final Check check = new Check();

    public static void main(String[] args) {
        wrongOffers();
        offers();
        offersOfTheLastLife();
        voids();
        ruin();
        tells();
        parts();
        check.end();
    }

    private static void wrongOffers() {
        AdmiralGuinea x = new AdmiralGuinea();
        for (int part = 0; part < 2; part++) {
            check.due("best(-1..)", x.best(-1, 0, 0, 1, part), LOST - 1);
            check.due("best(4..)", x.best(4, -1, 0, 1, part), LOST - 1);
            check.due("offers -1", x.best(0, -1, 0, 1, part), LOST - 2);
            check.due("offers 1000000", x.best(0, 1000000, 0, 1, part), LOST - 2);
            check.due("knows -1", x.best(0, 0, -1, 1, part), LOST - 2);
            check.due("knows 1000000", x.best(0, 0, 1000000, 1, part), LOST - 2);
            check.due("t 0", x.best(0, 0, 0, 0, part), LOST - 2);
            check.due("t 10", x.best(0, 0, 0, 10, part), LOST - 2);
        }
        check.due("part -1", x.best(0, 0, 0, 1, -1), LOST - 2);
        check.due("part 2", x.best(0, 0, 0, 1, 2), LOST - 2);
        check.due("unknown ahead of part", x.best(9, 0, 0, 1, 2), LOST - 1);
        check.due("buys(-1..)", x.buys(-1, 0, 0, 1), -1);
        check.due("buys(4..)", x.buys(4, 0, 0, 99), -1);
        check.due("offers -1", x.buys(0, -1, 0, 1), -2);
        check.due("offers 1000000", x.buys(0, 1000000, 0, 1), -2);
        check.due("knows -1", x.buys(0, 0, -1, 1), -2);
        check.due("knows 1000000", x.buys(0, 0, 1000000, 1), -2);
        check.due("t 0", x.buys(0, 0, 0, 0), -2);
        check.due("t 10", x.buys(0, 0, 0, 10), -2);
    }

    private static void bestIs(AdmiralGuinea x, int offers, int knows, int t, long[] fractionAndSet) {
        String call = "best " + offers + " " + knows + " " + t;
        check.fraction(call, x.best(0, offers, knows, t, 0), x.best(0, offers, knows, t, 1),
                fractionAndSet[0], fractionAndSet[1]);
        check.due("buys " + offers + " " + knows + " " + t, x.buys(0, offers, knows, t), fractionAndSet[2]);
    }

    private static void offers() {
        AdmiralGuinea x = new AdmiralGuinea();
        bestIs(x, 0, 999999, 9, new long[] {0, 1, 0});
        bestIs(x, 999999, 0, 9, new long[] {0, 1, 0});
        bestIs(x, 0, 0, 1, new long[] {0, 1, 0});
        bestIs(x, 900000, 500000, 1, new long[] {36, 1, 1});
        // 10 for 2 months: 19 of 100 by the book, at 2; by 3 tenths 51 of 100
        bestIs(x, 100000, 300000, 2, new long[] {31, 10, 1});
        bestIs(x, 100000, 100000, 2, new long[] {0, 1, 0});
        // what brings nothing is left: least as bits
        bestIs(x, 110000, 120000, 1, new long[] {1, 1, 2});
        // of two that bring as much the least as bits
        x.cash(0, 1);
        bestIs(x, 111000, 22000, 1, new long[] {1, 1, 2});
        bestIs(x, 111000, 222000, 1, new long[] {1, 1, 1});
        // two small ones bring more than a large one
        x.cash(0, 10);
        x.odds(0, 2);
        bestIs(x, 555000, 444000, 1, new long[] {30, 1, 6});
        x.cash(0, 9);
        bestIs(x, 555000, 444000, 1, new long[] {15, 1, 2});
        x.cash(0, 0);
        bestIs(x, 555000, 444000, 1, new long[] {0, 1, 0});
        x.odds(0, 0);
        bestIs(x, 500000, 100000, 3, new long[] {271, 20, 1});
        x.cash(0, 999);
        check.does(x, "Ax", 1);
        bestIs(x, 550000, 990000, 1, new long[] {40, 1, 2});
        check.due("nothing is bought", x.told(5), 0);
        check.due("cash", x.told(10), 999);
    }

    private static void offersOfTheLastLife() {
        AdmiralGuinea x = new AdmiralGuinea();
        bestIs(x, 1, 9, 1, new long[] {8, 1, 32});
        bestIs(x, 20, 90, 1, new long[] {16, 1, 16});
        bestIs(x, 999999, 9, 1, new long[] {72, 1, 32});
    }

    private static void voids() {
        AdmiralGuinea x = new AdmiralGuinea();
        check.due("voids(-1, 0)", x.voids(-1, 0), -2);
        check.due("voids(1000, 0)", x.voids(1000, 0), -2);
        check.due("voids(0, -1)", x.voids(0, -1), -2);
        check.due("voids(0, 2)", x.voids(0, 2), -2);
        check.due("voids(999, 0)", x.voids(999, 0), 0);
        for (int b = 0; b < 4; b++) x.cash(b, 999);
        check.does(x, "aA21bB91aA51aA31bB11cA31aA51", 7);
        voidIs(x, 999, 0, 0);
        voidIs(x, 150, 0, 0);
        voidIs(x, 149, 1, 1);
        voidIs(x, 130, 1, 1);
        voidIs(x, 120, 1, 4);
        voidIs(x, 99, 3, 1 + 2 + 4);
        voidIs(x, 100, 1, 4);
        voidIs(x, 70, 3, 2 + 8 + 4);
        voidIs(x, 50, 3, 2 + 64 + 4);
        voidIs(x, 20, 5, 2 + 4 + 8 + 64 + 32);
        voidIs(x, 9, 7, 127);
        voidIs(x, 0, 7, 127);
        check.due("nothing is void in fact", x.told(6), 127);
        check.does(x, "Ax", 1);
        voidIs(x, 10, 1, 2);
        AdmiralGuinea y = new AdmiralGuinea();
        y.cash(0, 999);
        check.does(y, "aA11aA11aA11aA11aA11aA11aA11aA11aA11aA11aA11aA11", 12);
        voidIs(y, 60, 6, 63);
        voidIs(y, 0, 12, 4095);
        voidIs(y, 10, 11, 2047);
    }

    private static void voidIs(AdmiralGuinea x, int g, int many, int which) {
        check.due("voids(" + g + ", 0)", x.voids(g, 0), many);
        check.due("voids(" + g + ", 1)", x.voids(g, 1), which);
    }

    private static void ruinIs(AdmiralGuinea x, int t, long upper, long lower, long meanUpper, long meanLower) {
        check.fraction("ruin " + t, x.ruin(t, 0, 0), x.ruin(t, 0, 1), upper, lower);
        check.fraction("mean " + t, x.ruin(t, 1, 0), x.ruin(t, 1, 1), meanUpper, meanLower);
    }

    private static void ruin() {
        AdmiralGuinea x = new AdmiralGuinea();
        check.due("ruin(-1, 0, 0)", x.ruin(-1, 0, 0), LOST - 2);
        check.due("ruin(4, 0, 0)", x.ruin(4, 0, 0), LOST - 2);
        check.due("ruin(0, -1, 0)", x.ruin(0, -1, 0), LOST - 2);
        check.due("ruin(0, 2, 0)", x.ruin(0, 2, 0), LOST - 2);
        check.due("ruin(0, 0, -1)", x.ruin(0, 0, -1), LOST - 2);
        check.due("ruin(0, 1, 2)", x.ruin(0, 1, 2), LOST - 2);
        ruinIs(x, 3, 0, 1, 0, 1);
        check.does(x, "aA11bA21cB31", 3);
        x.funds(0);
        ruinIs(x, 0, 0, 1, 0, 1);
        x.funds(30);
        ruinIs(x, 1, 1, 100, 6, 1);
        x.funds(29);
        ruinIs(x, 1, 19, 100, 6, 1);
        x.odds(0, 0);
        ruinIs(x, 2, 19, 100, 57, 10);
        x.odds(1, 0);
        ruinIs(x, 2, 0, 1, 0, 1);
        x.odds(0, 9);
        // also policies that will be over by then
        ruinIs(x, 3, 999, 1000, 2997, 100);
        check.does(x, "Ax", 1);
        x.funds(0);
        ruinIs(x, 3, 0, 1, 0, 1);
        allSix();
    }

    /** Six lives for three months: parts of 10 to the power 18. */
    private static void allSix() {
        AdmiralGuinea x = new AdmiralGuinea();
        check.does(x, "aA11aB11aC11aD11aE11aF11", 6);
        x.funds(59);
        // all six: (271/1000)^6
        ruinIs(x, 3, 271L * 271 * 271 * 271 * 271 * 271, 1000000000000000000L, 813, 50);
        x.funds(0);
        // any of them: 1 - (729/1000)^6
        ruinIs(x, 3, 1000000000000000000L - 729L * 729 * 729 * 729 * 729 * 729, 1000000000000000000L, 813, 50);
        x.funds(60);
        ruinIs(x, 3, 0, 1, 813, 50);
    }

    private static void tells() {
        AdmiralGuinea x = new AdmiralGuinea();
        check.due("tells(0, 1, 0)", x.tells(0, 1, 0), -2);
        check.due("tells(10, 1, 0)", x.tells(10, 1, 0), -2);
        check.due("tells(1, 0, 0)", x.tells(1, 0, 0), -2);
        check.due("tells(1, 10, 0)", x.tells(1, 10, 0), -2);
        check.due("tells(1, 1, -1)", x.tells(1, 1, -1), -2);
        check.due("tells(1, 1, 100)", x.tells(1, 1, 100), -2);
        check.due("odds 0 do not count", x.tells(1, 1, 0), 0);
        check.due("tells(9, 9, 99)", x.tells(9, 9, 99), 0);
        check.due("tells(9, 1, 81)", x.tells(9, 1, 81), 512);
        check.due("tells(1, 9, 10)", x.tells(1, 9, 10), 1016);
        for (int s = 1; s <= 9; s++) {
            for (int t = 1; t <= 9; t++) {
                // objects of their own: nothing is promised behind the 512th call
                AdmiralGuinea y = new AdmiralGuinea();
                int[] want = new int[100];
                for (int k = 1; k <= 9; k++) {
                    y.odds(0, k);
                    want[y.price(0, s, t)] |= 1 << k;
                }
                for (int p = 0; p < 100; p++) check.due("tells", y.tells(s, t, p), want[p]);
            }
        }
    }

    private static void parts() {
        AdmiralGuinea x = new AdmiralGuinea();
        int want = 0;
        for (int s = 1; s <= 9; s++) {
            for (int t = 1; t <= 9; t++) {
                boolean apart = true;
                AdmiralGuinea y = new AdmiralGuinea();
                for (int p = 0; p < 100; p++) apart &= Integer.bitCount(y.tells(s, t, p)) <= 1;
                if (apart) want++;
            }
        }
        check.due("parts by tells", want, 16);
        check.due("parts()", x.parts(), 16);
        check.does(x, "Ax", 1);
        x.odds(1, 9);
        check.due("whatever is so", x.parts(), 16);
    }
}
