import java.util.function.LongSupplier;

/** Objects in which much is so, and all that can be asked of one: for tests that nothing changes. */
final class Scene {
    static final int NONE = AdmiralGuinea.NONE, UNKNOWN = AdmiralGuinea.UNKNOWN, OUTSIDE = AdmiralGuinea.OUTSIDE,
            STATE = AdmiralGuinea.STATE, FULL = AdmiralGuinea.FULL, NO = AdmiralGuinea.NO;
    static final int MIN = Integer.MIN_VALUE, MAX = Integer.MAX_VALUE;

    private Scene() {
    }

    /** F has ended, it is month 1, there are policies 0, 1 and 2, two sights, image 1, signs that can be. */
    static AdmiralGuinea busy() {
        AdmiralGuinea x = new AdmiralGuinea();
        x.odds(2, 4);
        x.cash(1, 250);
        x.funds(700);
        say(x, "aA93bB52Fx.cC14");
        x.done();
        x.seen(0, 0, 90);
        x.seen(3, 1, 0);
        x.image(1);
        x.odds(3, 7);
        say(x, "dD21b1a.Cx");
        return x;
    }

    static void say(AdmiralGuinea x, String text) {
        for (char sign : text.toCharArray()) {
            x.say(sign);
        }
    }

    /** A house where everybody has 999. */
    static AdmiralGuinea rich() {
        AdmiralGuinea x = new AdmiralGuinea();
        for (int buyer = 0; buyer < 4; buyer++) {
            x.cash(buyer, 999);
        }
        return x;
    }

    /** Month 99, the last that can be; everybody has 100 still. */
    static AdmiralGuinea late(Check check) {
        AdmiralGuinea x = new AdmiralGuinea();
        check.months(x, 99);
        return x;
    }

    /** Buyer a holds all 12 policies, each of 90 on life A for a month, for nothing. */
    static AdmiralGuinea twelve(Check check) {
        AdmiralGuinea x = new AdmiralGuinea();
        x.odds(0, 0);
        check.does(x, "aA91".repeat(12), 12);
        return x;
    }

    /** What 94 questions answer that change nothing. */
    static long[] shot(AdmiralGuinea x) {
        long[] all = new long[94];
        int n = 0;
        for (int what = 0; what < 7; what++) all[n++] = x.told(what);
        for (int buyer = 0; buyer < 4; buyer++) all[n++] = x.told(10 + buyer);
        for (int life = 0; life < 6; life++) all[n++] = x.told(20 + life);
        for (int p = 0; p < 12; p++) {
            for (int what = 0; what < 4; what++) all[n++] = x.policy(p, what);
        }
        for (int what = 0; what < 8; what++) all[n++] = x.behind(what);
        for (int what = 0; what < 3; what++) all[n++] = x.liars(what);
        for (int what = 0; what < 2; what++) all[n++] = x.ask(what);
        for (int life = 0; life < 6; life++) all[n++] = x.chance(life, 9, 0);
        for (int buyer = 0; buyer < 4; buyer++) all[n++] = x.worth(buyer);
        for (int what = 0; what < 3; what++) all[n++] = x.year(77, 60, what);
        all[n++] = x.fault();
        all[n++] = x.judge(0);
        all[n++] = x.judge(1);
        return all;
    }

    static void same(Check check, long[] before, long[] now) {
        for (int i = 0; i < before.length; i++) {
            check.due("question " + i + ", asked again,", now[i], before[i]);
        }
    }

    /** Each call answers what is due, and all is as before then. */
    static void refused(Check check, AdmiralGuinea x, long want, LongSupplier... calls) {
        long[] before = shot(x);
        for (int i = 0; i < calls.length; i++) {
            check.due("refused call " + i, calls[i].getAsLong(), want);
        }
        same(check, before, shot(x));
    }
}
