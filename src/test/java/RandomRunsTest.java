import java.util.Random;

/** Runs of random calls, right and wrong ones, against the model; all promises. */
public final class RandomRunsTest {
    /** A step takes 120 calls at most, so that a run stays below the 512 that are promised. */
    private static final int RUNS = 2000, CALLS = 380;
    private static final Check check = new Check();
    private static Random random;
    private static AdmiralGuinea x;
    private static Model m;
    private static int run;

    public static void main(String[] args) {
        for (run = 0; run < RUNS; run++) {
            random = new Random(run);
            x = new AdmiralGuinea();
            m = new Model();
            int calls = run % 4 == 0 ? late() : 0;
            while (calls < CALLS) calls += step();
        }
        check.end();
    }

    /** Some runs begin near the last month. */
    private static int late() {
        int calls = sayAll(".".repeat(60)) + 1;
        same("done", x.done(), m.done());
        calls += sayAll(".".repeat(30 + random.nextInt(10))) + 1;
        same("done", x.done(), m.done());
        return calls;
    }

    private static void same(String call, long got, long want) {
        check.due("run " + run + ": " + call, got, want);
    }

    /** Mostly from 0 to most, at times a little outside or far off. */
    private static int upTo(int most) {
        int r = random.nextInt(60);
        if (r == 0) return -1 - random.nextInt(2);
        if (r == 1) return most + 1 + random.nextInt(2);
        if (r == 2 && random.nextInt(4) == 0) return random.nextInt();
        return random.nextInt(most + 1);
    }

    private static String act() {
        char b = (char) ('a' + random.nextInt(4));
        char c = (char) ('a' + random.nextInt(4));
        char l = (char) ('A' + random.nextInt(random.nextBoolean() ? 6 : 2));
        int kind = random.nextInt(14);
        if (kind < 6) return "" + b + l + (1 + random.nextInt(9)) + (1 + random.nextInt(9));
        if (kind < 9) return passOf(b, c);
        if (kind == 9) return l + "+";
        if (kind == 10) return l + "-";
        if (kind == 11) return l + "x";
        return kind == 12 ? "." : "..";
    }

    private static String passOf(char b, char c) {
        int p = random.nextInt(10);
        boolean his = m.now.deeds.containsKey(p) && random.nextInt(4) != 0;
        return "" + (his ? (char) ('a' + m.now.deeds.get(p).holder) : b) + p + c;
    }

    private static int sayAll(String text) {
        for (char s : text.toCharArray()) same("say " + s, x.say(s), m.say(s));
        return text.length();
    }

    private static int tellMonths() {
        int calls = 4;
        same("fault " + m.pad, x.fault(), m.fault());
        same("judge(0) " + m.pad, x.judge(0), m.judge(0));
        same("judge(1) " + m.pad, x.judge(1), m.judge(1));
        for (int w = 0; w < 8; w++, calls++) same("behind " + w + " " + m.pad, x.behind(w), m.behind(w));
        int done = m.done();
        same("done", x.done(), done);
        if (done < 0 && random.nextInt(5) != 0) {
            same("wipe", x.wipe(), m.wipe());
            calls++;
        }
        return calls + tellState();
    }

    private static int tellState() {
        int calls = 0;
        for (int w = 0; w < 26; w++, calls++) same("told " + w, x.told(w), m.told(w));
        int p = upTo(11);
        for (int w = 0; w < 5; w++, calls++) same("policy " + p + " " + w, x.policy(p, w), m.policy(p, w));
        return calls;
    }

    private static int step() {
        int kind = random.nextInt(30);
        if (kind < 8) return months();
        if (kind < 14) return settings();
        if (kind < 22) return sums();
        return stories();
    }

    private static int months() {
        StringBuilder text = new StringBuilder();
        int acts = 1 + random.nextInt(random.nextInt(4) == 0 ? 16 : 3);
        for (int i = 0; i < acts; i++) text.append(act());
        if (random.nextInt(8) == 0) text.setLength(random.nextInt(text.length() + 1));
        if (random.nextInt(12) == 0) text.insert(random.nextInt(text.length() + 1), (char) (30 + random.nextInt(100)));
        return sayAll(text.toString()) + tellMonths();
    }

    private static int settings() {
        int a = upTo(5);
        switch (random.nextInt(7)) {
            case 0: {
                int v = upTo(9);
                same("odds " + a + " " + v, x.odds(a, v), m.odds(a, v));
                return 1;
            }
            case 1: {
                int b = upTo(3);
                int v = upTo(random.nextBoolean() ? 999 : 12);
                same("cash " + b + " " + v, x.cash(b, v), m.cash(b, v));
                return 1;
            }
            case 2: {
                int v = upTo(random.nextBoolean() ? 9999 : 150);
                same("funds " + v, x.funds(v), m.funds(v));
                return 1;
            }
            case 3: {
                int n = upTo(1);
                same("image " + n, x.image(n), m.image(n));
                return 1;
            }
            case 4: {
                int n = upTo(1);
                if (random.nextInt(3) == 0) same("restore " + n, x.restore(n), m.restore(n));
                return 1 + tellState();
            }
            case 5: {
                int s = upTo(130);
                same("say " + s, x.say(s), m.say(s));
                same("fault", x.fault(), m.fault());
                same("wipe", x.wipe(), m.wipe());
                return 3;
            }
            default:
                same("heir " + a, x.heir(a), m.heir(a));
                return 1;
        }
    }

    private static int sums() {
        int b = upTo(3);
        int l = upTo(5);
        int t = upTo(9);
        int part = upTo(1);
        switch (random.nextInt(7)) {
            case 0: {
                int tens = upTo(9);
                same("price", x.price(l, tens, t), m.price3(l, tens, t));
                same("chance", x.chance(l, t, part), m.chance(l, t, part));
                return 2;
            }
            case 1:
                same("gains", x.gains(b, l), m.gains(b, l));
                same("worth", x.worth(b), m.worth(b));
                return 2;
            case 2:
            case 3: {
                int offers = upTo(999999);
                int knows = upTo(999999);
                String call = "best " + b + " " + offers + " " + knows + " " + t;
                same(call + " " + part, x.best(b, offers, knows, t, part), m.best(b, offers, knows, t, part));
                same(call, x.buys(b, offers, knows, t), m.buys(b, offers, knows, t));
                return 2;
            }
            case 4: {
                int g = upTo(random.nextBoolean() ? 200 : 999);
                same("voids " + g, x.voids(g, 0), m.voids(g, 0));
                same("voids " + g, x.voids(g, 1), m.voids(g, 1));
                return 2;
            }
            case 5: {
                int months = upTo(3);
                int what = upTo(1);
                same("ruin " + months + what + part, x.ruin(months, what, part), m.ruin(months, what, part));
                return 1;
            }
            default: {
                int s = upTo(9);
                int price = upTo(99);
                same("tells", x.tells(s, t, price), m.tells(s, t, price));
                if (random.nextInt(50) == 0) same("parts", x.parts(), m.parts());
                return 2;
            }
        }
    }

    private static int stories() {
        switch (random.nextInt(7)) {
            case 0:
            case 1: {
                int b = upTo(3);
                int l = upTo(5);
                int g = random.nextInt(3) == 0 ? upTo(999) : Math.max(0, m.gains(b, l)) + 10 * random.nextInt(2);
                same("seen", x.seen(b, l, g), m.seen(b, l, g));
                return 1 + liarsAndAsk();
            }
            case 2:
                same("forget", x.forget(), m.forget());
                return 1 + liarsAndAsk();
            case 3: {
                int wants = random.nextInt(3) == 0 ? upTo(6666)
                        : 1000 * upTo(6) + 100 * upTo(6) + 10 * upTo(6) + upTo(6);
                same("pass " + wants, x.pass(wants), m.pass(wants));
                return 1;
            }
            case 4: {
                int n = upTo(12);
                int k = upTo(Math.max(0, Math.min(12, n)));
                int t = upTo(10);
                int part = upTo(1);
                same("bets " + n + " " + k + " " + t, x.bets(n, k, t, part), m.bets(n, k, t, part));
                return 1;
            }
            default: {
                int seed = upTo(9999);
                int months = upTo(60);
                int what = upTo(2);
                same("year " + seed + " " + months + " " + what, x.year(seed, months, what), m.year(seed, months, what));
                return 1;
            }
        }
    }

    private static int liarsAndAsk() {
        int w = upTo(2);
        int v = upTo(1);
        same("liars " + w, x.liars(w), m.liars(w));
        same("ask " + v, x.ask(v), m.ask(v));
        return 2;
    }
}
