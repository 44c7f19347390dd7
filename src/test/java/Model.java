import java.math.BigInteger;
import java.util.ArrayList;
import java.util.Arrays;
import java.util.HashMap;
import java.util.List;
import java.util.Map;
import java.util.TreeMap;
import java.util.regex.Matcher;
import java.util.regex.Pattern;

/**
 * The document once more, by brute force and with the whole Java library, so that slips of the class show
 * in random runs. It shares no code with it.
 */
final class Model {
    static final class Deed {
        int holder;
        int life;
        int sum;
        int till;

        Deed(int holder, int life, int sum, int till) {
            this.holder = holder;
            this.life = life;
            this.sum = sum;
            this.till = till;
        }
    }

    static final class State {
        int month = 0;
        int funds = 1000;
        int next = 0;
        boolean[] ended = new boolean[6];
        int[] odds = {1, 1, 1, 1, 1, 1};
        int[] cash = {100, 100, 100, 100};
        TreeMap<Integer, Deed> deeds = new TreeMap<>();
        List<int[]> sights = new ArrayList<>();
        int paid = 0;
        boolean unpaid = false;

        State copy() {
            State c = new State();
            c.month = month;
            c.funds = funds;
            c.next = next;
            c.ended = ended.clone();
            c.odds = odds.clone();
            c.cash = cash.clone();
            for (Map.Entry<Integer, Deed> e : deeds.entrySet()) {
                Deed d = e.getValue();
                c.deeds.put(e.getKey(), new Deed(d.holder, d.life, d.sum, d.till));
            }
            for (int[] s : sights) c.sights.add(s.clone());
            return c;
        }

        int alive() {
            int n = 0;
            for (boolean e : ended) if (!e) n++;
            return n;
        }
    }

    State now = new State();
    String pad = "";
    State[] images = new State[2];

    private static final Pattern ACT = Pattern.compile("[a-d][A-F][1-9][1-9]|[a-d][0-9][a-d]|[A-F][-+x]|\\.");

    // ---- 1

    int odds(int l, int v) {
        if (l < 0 || l > 5) return -1;
        if (v < 0 || v > 9) return -2;
        int was = now.odds[l];
        now.odds[l] = v;
        return was;
    }

    int heir(int l) {
        if (l < 0 || l > 5) return -1;
        if (!now.ended[l]) return -3;
        now.ended[l] = false;
        return now.alive();
    }

    int cash(int b, int v) {
        if (b < 0 || b > 3) return -1;
        if (v < 0 || v > 999) return -2;
        int was = now.cash[b];
        now.cash[b] = v;
        return was;
    }

    int funds(int v) {
        if (v < 0 || v > 9999) return -2;
        int was = now.funds;
        now.funds = v;
        return was;
    }

    int say(int sign) {
        if (sign < 33 || sign > 126) return -2;
        if (pad.length() >= 60) return -4;
        pad += (char) sign;
        return pad.length();
    }

    int wipe() {
        int n = pad.length();
        pad = "";
        return n;
    }

    private static boolean canGoOn(String beginning) {
        int at = 0;
        Matcher m = ACT.matcher(beginning);
        while (at < beginning.length() && m.find(at) && m.start() == at) at = m.end();
        String rest = beginning.substring(at);
        return rest.isEmpty() || rest.matches("[a-d]([A-F][1-9]?|[0-9])?|[A-F]");
    }

    int fault() {
        for (int i = 1; i <= pad.length(); i++) {
            if (!canGoOn(pad.substring(0, i))) return i - 1;
        }
        return pad.matches("(" + ACT.pattern() + ")*") ? -6 : pad.length();
    }

    // ---- acts

    static int price(int odds, int sum, int t) {
        BigInteger lower = BigInteger.TEN.pow(t);
        BigInteger upper = lower.subtract(BigInteger.valueOf(10 - odds).pow(t)).multiply(BigInteger.valueOf(sum));
        return upper.add(lower).subtract(BigInteger.ONE).divide(lower).intValueExact();
    }

    static int act(State s, String act) {
        if (act.equals(".")) {
            if (s.month == 99) return 7;
            int over = s.month;
            s.deeds.values().removeIf(d -> d.till == over);
            if (s.deeds.isEmpty()) s.next = 0;
            s.month++;
            return 0;
        }
        if (act.length() == 2) return fate(s, act.charAt(0) - 'A', act.charAt(1));
        int b = act.charAt(0) - 'a';
        if (act.length() == 4) return buy(s, b, act.charAt(1) - 'A', act.charAt(2) - '0', act.charAt(3) - '0');
        int to = act.charAt(2) - 'a';
        Deed d = s.deeds.get(act.charAt(1) - '0');
        if (s.cash[to] < 1) return 3;
        if (d == null || d.holder != b) return 4;
        if (b == to) return 5;
        s.cash[to] -= 1;
        s.cash[b] = Math.min(999, s.cash[b] + 1);
        d.holder = to;
        return 0;
    }

    private static int fate(State s, int l, char what) {
        if (s.ended[l]) return 1;
        if (what == '+') {
            if (s.odds[l] == 0) return 6;
            s.odds[l]--;
        } else if (what == '-') {
            if (s.odds[l] == 9) return 6;
            s.odds[l]++;
        } else {
            s.ended[l] = true;
            for (Deed d : s.deeds.values()) {
                if (d.life == l) {
                    int p = Math.min(d.sum, s.funds);
                    if (p < d.sum) s.unpaid = true;
                    s.paid += p;
                    s.funds -= p;
                    s.cash[d.holder] = Math.min(999, s.cash[d.holder] + p);
                }
            }
            s.deeds.values().removeIf(d -> d.life == l);
            if (s.deeds.isEmpty()) s.next = 0;
        }
        return 0;
    }

    private static int buy(State s, int b, int l, int tens, int t) {
        if (s.ended[l]) return 1;
        if (s.next == 12) return 2;
        int p = price(s.odds[l], 10 * tens, t);
        if (s.cash[b] < p) return 3;
        if (s.month + t - 1 > 99) return 7;
        s.cash[b] -= p;
        s.funds = Math.min(9999, s.funds + p);
        s.deeds.put(s.next++, new Deed(b, l, 10 * tens, s.month + t - 1));
        return 0;
    }

    /** {first bad act, why, acts, first short act}; the state comes behind all that could be. */
    private int[] run(State s) {
        int n = 0;
        int shortAct = -6;
        Matcher m = ACT.matcher(pad);
        while (m.find()) {
            int why = act(s, m.group());
            if (why != 0) return new int[] {n, why, n, shortAct};
            if (s.unpaid && shortAct == -6) shortAct = n;
            n++;
        }
        return new int[] {-6, -6, n, shortAct};
    }

    // ---- 2

    int judge(int what) {
        if (what < 0 || what > 1) return -2;
        if (fault() != -6) return -5;
        return run(now.copy())[what];
    }

    int done() {
        if (fault() != -6) return -5;
        State s = now.copy();
        int[] r = run(s);
        if (r[0] != -6) return -5;
        now = s.copy();
        pad = "";
        return r[2];
    }

    int behind(int what) {
        if (what < 0 || what > 7) return -2;
        if (fault() != -6) return -5;
        State s = now.copy();
        int[] r = run(s);
        if (r[0] != -6) return -5;
        int[] all = {s.cash[0], s.cash[1], s.cash[2], s.cash[3], s.funds, s.month, s.paid, r[3]};
        return all[what];
    }

    int policy(int p, int what) {
        Deed d = now.deeds.get(p);
        if (d == null) return -1;
        if (what < 0 || what > 3) return -2;
        return new int[] {d.holder, d.life, d.sum, d.till}[what];
    }

    int price3(int l, int tens, int t) {
        if (l < 0 || l > 5) return -1;
        if (tens < 1 || tens > 9 || t < 1 || t > 9) return -2;
        if (now.ended[l]) return -3;
        return price(now.odds[l], 10 * tens, t);
    }

    static final long LOST = -1000000000000000000L;

    static long part(BigInteger upper, BigInteger lower, int part) {
        BigInteger g = upper.gcd(lower);
        return (part == 0 ? upper : lower).divide(g).longValueExact();
    }

    long chance(int l, int t, int part) {
        if (l < 0 || l > 5) return LOST - 1;
        if (t < 0 || t > 9 || part < 0 || part > 1) return LOST - 2;
        if (now.ended[l]) return LOST - 3;
        BigInteger lower = BigInteger.TEN.pow(t);
        return part(lower.subtract(BigInteger.valueOf(10 - now.odds[l]).pow(t)), lower, part);
    }

    static int gainsIn(Iterable<Deed> deeds, int b, int l) {
        int g = 0;
        for (Deed d : deeds) if (d.holder == b && d.life == l) g += d.sum;
        return g;
    }

    int gains(int b, int l) {
        if (b < 0 || b > 3 || l < 0 || l > 5) return -1;
        return gainsIn(now.deeds.values(), b, l);
    }

    int worth(int b) {
        if (b < 0 || b > 3) return -1;
        int best = -6;
        int most = 0;
        for (int l = 5; l >= 0; l--) {
            int g = gainsIn(now.deeds.values(), b, l);
            if (g > 0 && g >= most) {
                most = g;
                best = l;
            }
        }
        return best;
    }

    // ---- 3

    private Object[] bestOf(int b, int offers, int knows, int t) {
        String o = String.format("%06d", offers);
        String k = String.format("%06d", knows);
        BigInteger lower = BigInteger.TEN.pow(t);
        BigInteger best = null;
        int which = 0;
        for (int set = 0; set < 64; set++) {
            int cost = 0;
            BigInteger mean = BigInteger.ZERO;
            for (int l = 0; l < 6; l++) {
                int sum = 10 * (o.charAt(l) - '0');
                if ((set & 1 << l) == 0 || sum == 0 || now.ended[l]) continue;
                int p = price(now.odds[l], sum, t);
                cost += p;
                BigInteger c = lower.subtract(BigInteger.valueOf(10 - (k.charAt(l) - '0')).pow(t));
                mean = mean.add(c.multiply(BigInteger.valueOf(sum))).subtract(lower.multiply(BigInteger.valueOf(p)));
            }
            if (cost <= now.cash[b] && (best == null || mean.compareTo(best) > 0)) {
                best = mean;
                which = set;
            }
        }
        return new Object[] {best, which};
    }

    private static int wrongOffer(int b, int offers, int knows, int t) {
        if (b < 0 || b > 3) return -1;
        return offers < 0 || offers > 999999 || knows < 0 || knows > 999999 || t < 1 || t > 9 ? -2 : 0;
    }

    long best(int b, int offers, int knows, int t, int part) {
        int no = wrongOffer(b, offers, knows, t);
        if (no == 0 && (part < 0 || part > 1)) no = -2;
        if (no != 0) return LOST + no;
        return part((BigInteger) bestOf(b, offers, knows, t)[0], BigInteger.TEN.pow(t), part);
    }

    int buys(int b, int offers, int knows, int t) {
        int no = wrongOffer(b, offers, knows, t);
        return no != 0 ? no : (Integer) bestOf(b, offers, knows, t)[1];
    }

    int voids(int g, int what) {
        if (g < 0 || g > 999 || what < 0 || what > 1) return -2;
        int best = -1;
        int all = told(6);
        for (int set = 0; set < 4096; set++) {
            if ((set & ~all) != 0 || best >= 0 && Integer.bitCount(set) >= Integer.bitCount(best)) continue;
            int[] sums = new int[24];
            for (Map.Entry<Integer, Deed> e : now.deeds.entrySet()) {
                if ((set & 1 << e.getKey()) == 0) {
                    sums[e.getValue().holder * 6 + e.getValue().life] += e.getValue().sum;
                }
            }
            if (Arrays.stream(sums).max().getAsInt() <= g) best = set;
        }
        return what == 0 ? Integer.bitCount(best) : best;
    }

    long ruin(int t, int what, int part) {
        if (t < 0 || t > 3 || what < 0 || what > 1 || part < 0 || part > 1) return LOST - 2;
        BigInteger one = BigInteger.TEN.pow(t);
        BigInteger over = BigInteger.ZERO;
        BigInteger mean = BigInteger.ZERO;
        for (int set = 0; set < 64; set++) {
            BigInteger ways = BigInteger.ONE;
            int owed = 0;
            for (int l = 0; l < 6; l++) {
                BigInteger stays = now.ended[l] ? one : BigInteger.valueOf(10 - now.odds[l]).pow(t);
                ways = ways.multiply((set & 1 << l) == 0 ? stays : one.subtract(stays));
                for (int b = 0; b < 4 && (set & 1 << l) != 0; b++) owed += gainsIn(now.deeds.values(), b, l);
            }
            mean = mean.add(ways.multiply(BigInteger.valueOf(owed)));
            if (owed > now.funds) over = over.add(ways);
        }
        return part(what == 0 ? over : mean, one.pow(6), part);
    }

    int tells(int s, int t, int price) {
        if (s < 1 || s > 9 || t < 1 || t > 9 || price < 0 || price > 99) return -2;
        int bits = 0;
        for (int k = 1; k <= 9; k++) if (price(k, 10 * s, t) == price) bits |= 1 << k;
        return bits;
    }

    int parts() {
        int n = 0;
        for (int s = 1; s <= 9; s++) {
            for (int t = 1; t <= 9; t++) {
                Map<Integer, Integer> seen = new HashMap<>();
                for (int k = 1; k <= 9; k++) seen.put(price(k, 10 * s, t), k);
                if (seen.size() == 9) n++;
            }
        }
        return n;
    }

    // ---- 4

    int seen(int b, int l, int g) {
        if (b < 0 || b > 3 || l < 0 || l > 5) return -1;
        if (g < 0 || g > 999) return -2;
        if (now.sights.size() == 8) return -4;
        now.sights.add(new int[] {b, l, g});
        return now.sights.size();
    }

    int forget() {
        int n = now.sights.size();
        now.sights.clear();
        return n;
    }

    /** Each fitting world as a whole book; its key is the policy that is another's and whose, or -1. */
    private Map<Integer, State> worlds() {
        Map<Integer, State> all = new TreeMap<>();
        all.put(-1, now.copy());
        for (int p : now.deeds.keySet()) {
            for (int b = 0; b < 4; b++) {
                if (now.deeds.get(p).holder != b) {
                    State w = now.copy();
                    w.deeds.get(p).holder = b;
                    all.put(10 * p + b, w);
                }
            }
        }
        all.values().removeIf(w -> {
            for (int[] s : now.sights) if (gainsIn(w.deeds.values(), s[0], s[1]) != s[2]) return true;
            return false;
        });
        return all;
    }

    int liars(int what) {
        if (what < 0 || what > 2) return -2;
        Map<Integer, State> w = worlds();
        int bits = 0;
        for (int key : w.keySet()) if (key >= 0) bits |= 1 << key / 10;
        return what == 0 ? w.size() : what == 1 ? bits : w.containsKey(-1) ? 1 : 0;
    }

    int ask(int what) {
        if (what < 0 || what > 1) return -2;
        Map<Integer, State> w = worlds();
        if (w.isEmpty()) return -6;
        int whom = -6;
        int fewest = 1000;
        for (int b = 0; b < 4; b++) {
            for (int l = 0; l < 6; l++) {
                Map<Integer, Integer> said = new HashMap<>();
                for (State s : w.values()) said.merge(gainsIn(s.deeds.values(), b, l), 1, Integer::sum);
                int most = said.values().stream().max(Integer::compare).get();
                if (most < fewest) {
                    fewest = most;
                    whom = 10 * b + l;
                }
            }
        }
        return what == 0 ? whom : fewest;
    }

    int pass(int wants) {
        if (wants < 0 || wants > 9999) return -2;
        String w = String.format("%04d", wants);
        if (!w.matches("[0-6]{4}")) return -2;
        int n = 0;
        for (Deed d : now.deeds.values()) {
            char l = (char) ('0' + d.life);
            if (w.indexOf(l) < 0 || w.indexOf(l) != w.lastIndexOf(l)) return -6;
            if (w.indexOf(l) != d.holder) n++;
        }
        return n;
    }

    long bets(int n, int k, int t, int part) {
        if (n < 0 || n > 12 || k < 0 || k > n || t < 0 || t > 10 || part < 0 || part > 1) return LOST - 2;
        BigInteger upper = BigInteger.ZERO;
        for (int set = 0; set < 1 << n; set++) {
            if (Integer.bitCount(set) == k) {
                upper = upper.add(BigInteger.valueOf(t).pow(k).multiply(BigInteger.valueOf(10 - t).pow(n - k)));
            }
        }
        return part(upper, BigInteger.TEN.pow(n), part);
    }

    int year(int seed, int m, int what) {
        if (seed < 0 || seed > 9999 || m < 1 || m > 60 || what < 0 || what > 2) return -2;
        State s = now.copy();
        long x = seed;
        for (int i = 0; i < m; i++) {
            x = (75 * x + 74) % 65537;
            int l = (int) (x % 6);
            if (!s.ended[l] && x / 6 % 10 < s.odds[l]) fate(s, l, 'x');
            else buy(s, (int) (x / 60 % 4), l, 1, (int) (1 + x / 240 % 9));
            act(s, ".");
        }
        return what == 0 ? Arrays.stream(s.cash).sum() : what == 1 ? s.funds : s.alive();
    }

    int image(int n) {
        if (n < 0 || n > 1) return -2;
        images[n] = now.copy();
        return 1;
    }

    int restore(int n) {
        if (n < 0 || n > 1) return -2;
        if (images[n] == null) return -3;
        now = images[n].copy();
        return 1;
    }

    int told(int what) {
        if (what >= 10 && what <= 13) return now.cash[what - 10];
        if (what >= 20 && what <= 25) return now.odds[what - 20];
        int ended = 0;
        for (int l = 0; l < 6; l++) if (now.ended[l]) ended |= 1 << l;
        int there = 0;
        for (int p : now.deeds.keySet()) there |= 1 << p;
        int[] all = {pad.length(), now.month, now.funds, now.sights.size(), ended, now.next, there};
        return what >= 0 && what < all.length ? all[what] : -2;
    }
}
