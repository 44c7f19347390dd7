/** Promises 23 to 28: seen, forget, liars, ask, pass, bets. */
public final class LiarsAndPassesTest {
    private static final long LOST = AdmiralGuinea.LOST;
    private static final Check check = new Check();

    public static void main(String[] args) {
        seenAndForget();
        liars();
        asks();
        fullBook();
        passes();
        bets();
        check.end();
    }

    private static void seenAndForget() {
        AdmiralGuinea x = new AdmiralGuinea();
        check.due("seen(-1, 0, 0)", x.seen(-1, 0, 0), -1);
        check.due("seen(4, 0, 0)", x.seen(4, 0, 0), -1);
        check.due("seen(0, -1, 0)", x.seen(0, -1, 0), -1);
        check.due("seen(0, 6, 1000)", x.seen(0, 6, 1000), -1);
        check.due("seen(0, 0, -1)", x.seen(0, 0, -1), -2);
        check.due("seen(0, 0, 1000)", x.seen(0, 0, 1000), -2);
        check.due("none", x.told(3), 0);
        for (int i = 1; i <= 8; i++) check.due("seen", x.seen(3, 5, i == 8 ? 999 : 0), i);
        check.due("full", x.seen(0, 0, 0), -4);
        check.due("unknown ahead of full", x.seen(4, 0, 0), -1);
        check.due("outside ahead of full", x.seen(0, 0, 1000), -2);
        check.due("eight", x.told(3), 8);
        check.due("the last one counts", x.liars(0), 0);
        check.due("forget", x.forget(), 8);
        check.due("forget", x.forget(), 0);
        check.due("none", x.told(3), 0);
        check.due("seen", x.seen(0, 0, 0), 1);
        check.due("the book", x.liars(2), 1);
    }

    private static void liarsAre(AdmiralGuinea x, int many, int which, int right) {
        check.due("liars(0)", x.liars(0), many);
        check.due("liars(1)", x.liars(1), which);
        check.due("liars(2)", x.liars(2), right);
    }

    private static void asksAre(AdmiralGuinea x, int whom, int left) {
        check.due("ask(0)", x.ask(0), whom);
        check.due("ask(1)", x.ask(1), left);
    }

    private static void liars() {
        AdmiralGuinea x = new AdmiralGuinea();
        check.due("liars(-1)", x.liars(-1), -2);
        check.due("liars(3)", x.liars(3), -2);
        liarsAre(x, 1, 0, 1);
        check.does(x, "aA22bB32", 2);
        liarsAre(x, 7, 3, 1);
        x.seen(2, 0, 20);
        liarsAre(x, 1, 1, 0);
        x.seen(0, 0, 0);
        liarsAre(x, 1, 1, 0);
        x.seen(1, 1, 30);
        liarsAre(x, 1, 1, 0);
        x.seen(1, 1, 0);
        liarsAre(x, 0, 0, 0);
        x.forget();
        x.seen(2, 0, 0);
        liarsAre(x, 6, 3, 1);
        x.seen(0, 0, 20);
        liarsAre(x, 4, 2, 1);
        x.seen(1, 1, 30);
        liarsAre(x, 1, 0, 1);
        x.seen(3, 4, 10);
        liarsAre(x, 0, 0, 0);
        x.forget();
        x.seen(0, 0, 10);
        liarsAre(x, 0, 0, 0);
        x.forget();
        check.does(x, "AxBx", 2);
        liarsAre(x, 1, 0, 1);
    }

    private static void asks() {
        AdmiralGuinea x = new AdmiralGuinea();
        check.due("ask(-1)", x.ask(-1), -2);
        check.due("ask(2)", x.ask(2), -2);
        asksAre(x, 0, 1);
        x.seen(0, 0, 1);
        asksAre(x, -6, -6);
        x.forget();
        check.does(x, "dF22", 1);
        // the holder: 20 or 0 (three worlds); another: 20 in one world, 0 in three
        asksAre(x, 5, 3);
        x.seen(0, 5, 0);
        asksAre(x, 15, 2);
        x.seen(1, 5, 0);
        asksAre(x, 25, 1);
        x.seen(2, 5, 0);
        asksAre(x, 0, 1);
        x.forget();
        check.does(x, "dF12dF32", 2);
        liarsAre(x, 10, 7, 1);
        // d: 60, or 60 less 20, 10, 30: 1 3 3 3; a: 0 in 7, 20, 10, 30
        asksAre(x, 35, 3);
        check.does(x, "AxFx", 2);
        asksAre(x, 0, 1);
    }

    private static void fullBook() {
        AdmiralGuinea x = new AdmiralGuinea();
        x.cash(3, 999);
        check.does(x, "dF91dF91dF91dF91dF91dF91dF91dF91dF91dF91dF91dF91", 12);
        liarsAre(x, 37, 4095, 1);
        // d: 1080 in one, 990 in 36; a: 90 in 12, 0 in 25
        asksAre(x, 5, 25);
        x.seen(3, 5, 990);
        liarsAre(x, 36, 4095, 0);
        asksAre(x, 5, 24);
        x.forget();
        x.seen(1, 5, 90);
        liarsAre(x, 12, 4095, 0);
        asksAre(x, 0, 12);
    }

    private static void passes() {
        AdmiralGuinea x = new AdmiralGuinea();
        check.due("pass(-1)", x.pass(-1), -2);
        check.due("pass(6667)", x.pass(6667), -2);
        check.due("pass(7)", x.pass(7), -2);
        check.due("pass(70)", x.pass(70), -2);
        check.due("pass(900)", x.pass(900), -2);
        check.due("pass(7000)", x.pass(7000), -2);
        check.due("pass(10000)", x.pass(10000), -2);
        check.due("pass(MAX)", x.pass(Integer.MAX_VALUE), -2);
        check.due("pass(MIN)", x.pass(Integer.MIN_VALUE), -2);
        check.due("pass(0)", x.pass(0), 0);
        check.due("pass(6666)", x.pass(6666), 0);
        check.does(x, "aA12bA12cB11dF12", 4);
        check.due("pass(156)", x.pass(156), 3);
        check.due("pass(1560)", x.pass(1560), 4);
        check.due("pass(165)", x.pass(165), 2);
        check.due("pass(1056)", x.pass(1056), 3);
        check.due("pass(6015)", x.pass(6015), 1);
        check.due("nobody wants B", x.pass(656), -6);
        check.due("two want A", x.pass(15), -6);
        check.due("three want F", x.pass(1555), -6);
        x.cash(0, 0);
        x.cash(1, 0);
        check.due("cash is no matter", x.pass(6015), 1);
        check.does(x, ".", 1);
        check.due("what is over is no matter", x.pass(656), 2);
        check.due("two may want what is not", x.pass(1105), 2);
        check.due("two may want what is not", x.pass(5011), 2);
    }

    private static void bets() {
        AdmiralGuinea x = new AdmiralGuinea();
        check.due("n -1", x.bets(-1, 0, 0, 0), LOST - 2);
        check.due("n 13", x.bets(13, 0, 0, 0), LOST - 2);
        check.due("k -1", x.bets(3, -1, 0, 0), LOST - 2);
        check.due("k 4", x.bets(3, 4, 0, 0), LOST - 2);
        check.due("t -1", x.bets(3, 0, -1, 0), LOST - 2);
        check.due("t 11", x.bets(3, 0, 11, 0), LOST - 2);
        check.due("part -1", x.bets(3, 0, 1, -1), LOST - 2);
        check.due("part 2", x.bets(3, 0, 1, 2), LOST - 2);
        betIs(x, 0, 0, 0, 1, 1);
        betIs(x, 0, 0, 10, 1, 1);
        betIs(x, 5, 0, 0, 1, 1);
        betIs(x, 5, 1, 0, 0, 1);
        betIs(x, 5, 5, 10, 1, 1);
        betIs(x, 5, 4, 10, 0, 1);
        betIs(x, 3, 2, 3, 189, 1000);
        betIs(x, 12, 12, 1, 1, 1000000000000L);
        betIs(x, 12, 0, 1, 282429536481L, 1000000000000L);
        betIs(x, 12, 6, 5, 231, 1024);
        betIs(x, 12, 1, 3, 12L * 3 * 1977326743L, 1000000000000L);
    }

    private static void betIs(AdmiralGuinea x, int n, int k, int t, long upper, long lower) {
        long a = upper;
        long b = lower;
        while (b != 0) {
            long r = a % b;
            a = b;
            b = r;
        }
        check.fraction("bets " + n + " " + k + " " + t, x.bets(n, k, t, 0), x.bets(n, k, t, 1), upper / a, lower / a);
    }
}
