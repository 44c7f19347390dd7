import java.math.BigInteger;

/** Promises 13 to 16: price, chance, gains, worth. */
public final class PricesAndGainsTest {
    private static final long LOST = AdmiralGuinea.LOST;
    private static final Check check = new Check();

    public static void main(String[] args) {
        wrongInputs();
        everyPriceAndChance();
        gains();
        worth();
        check.end();
    }

    private static void wrongInputs() {
        AdmiralGuinea x = new AdmiralGuinea();
        check.due("price(-1, 1, 1)", x.price(-1, 1, 1), -1);
        check.due("price(6, 0, 0)", x.price(6, 0, 0), -1);
        check.due("price(0, 0, 1)", x.price(0, 0, 1), -2);
        check.due("price(0, 10, 1)", x.price(0, 10, 1), -2);
        check.due("price(0, 1, 0)", x.price(0, 1, 0), -2);
        check.due("price(0, 1, 10)", x.price(0, 1, 10), -2);
        check.due("chance(-1, 0, 0)", x.chance(-1, 0, 0), LOST - 1);
        check.due("chance(6, 10, 2)", x.chance(6, 10, 2), LOST - 1);
        check.due("chance(0, -1, 0)", x.chance(0, -1, 0), LOST - 2);
        check.due("chance(0, 10, 0)", x.chance(0, 10, 0), LOST - 2);
        check.due("chance(0, 0, -1)", x.chance(0, 0, -1), LOST - 2);
        check.due("chance(0, 0, 2)", x.chance(0, 0, 2), LOST - 2);
        check.does(x, "Dx", 1);
        check.due("price of one that has ended", x.price(3, 1, 1), -3);
        check.due("outside ahead of state", x.price(3, 0, 1), -2);
        check.due("chance of one that has ended", x.chance(3, 0, 1), LOST - 3);
        check.due("outside ahead of state", x.chance(3, 0, 2), LOST - 2);
        check.due("gains of one that has ended", x.gains(0, 3), 0);
        check.due("gains(-1, 0)", x.gains(-1, 0), -1);
        check.due("gains(4, 0)", x.gains(4, 0), -1);
        check.due("gains(0, -1)", x.gains(0, -1), -1);
        check.due("gains(0, 6)", x.gains(0, 6), -1);
        check.due("worth(-1)", x.worth(-1), -1);
        check.due("worth(4)", x.worth(4), -1);
    }

    private static void everyPriceAndChance() {
        for (int odds = 0; odds <= 9; odds++) {
            AdmiralGuinea x = new AdmiralGuinea();
            x.odds(4, odds);
            for (int t = 0; t <= 9; t++) {
                BigInteger lower = BigInteger.TEN.pow(t);
                BigInteger upper = lower.subtract(BigInteger.valueOf(10 - odds).pow(t));
                BigInteger g = upper.gcd(lower);
                check.fraction("chance " + odds + " " + t, x.chance(4, t, 0), x.chance(4, t, 1),
                        upper.divide(g).longValueExact(), lower.divide(g).longValueExact());
                for (int tens = 1; tens <= 9 && t > 0; tens++) {
                    BigInteger[] q = upper.multiply(BigInteger.valueOf(10L * tens)).divideAndRemainder(lower);
                    check.due("price " + odds + " " + tens + " " + t, x.price(4, tens, t),
                            q[0].intValueExact() + (q[1].signum() > 0 ? 1 : 0));
                }
            }
        }
    }

    private static void gains() {
        AdmiralGuinea x = new AdmiralGuinea();
        check.does(x, "aA91aA11bA51aB21", 4);
        check.due("gains", x.gains(0, 0), 100);
        check.due("gains", x.gains(1, 0), 50);
        check.due("gains", x.gains(0, 1), 20);
        check.due("gains", x.gains(2, 0), 0);
        check.does(x, "a0b", 1);
        check.due("passed on", x.gains(0, 0), 10);
        check.due("passed on", x.gains(1, 0), 140);
        check.does(x, "Ax", 1);
        check.due("paid", x.gains(1, 0), 0);
        check.does(x, ".", 1);
        check.due("over", x.gains(0, 1), 0);
    }

    private static void worth() {
        AdmiralGuinea x = new AdmiralGuinea();
        check.due("nothing", x.worth(0), -6);
        check.does(x, "cA12cB12", 2);
        check.due("life 0", x.worth(2), 0);
        check.does(x, "Ax", 1);
        check.due("paid", x.worth(2), 1);
        check.does(x, "BxaF31aC21aC11bE11bD22", 6);
        check.due("of several the least", x.worth(0), 2);
        check.due("the most", x.worth(1), 3);
        check.due("nothing any more", x.worth(2), -6);
        check.does(x, "aF11", 1);
        check.due("more now", x.worth(0), 5);
        check.does(x, ".", 1);
        check.due("over", x.worth(0), -6);
        check.due("still", x.worth(1), 3);
    }
}
