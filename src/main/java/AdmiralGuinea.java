/**
 * A coffee house where anybody's life is insured for anybody: lives by the odds of a month, policies,
 * months told as small texts, prices, ruin, liars, bets. The document's numbered promises say what each
 * call answers; no call ever throws, what is refused is told by a number below zero.
 */
public final class AdmiralGuinea {
    public static final int NONE = -6, UNKNOWN = -1, OUTSIDE = -2, STATE = -3, FULL = -4, NO = -5;
    public static final long LOST = -1000000000000000000L;

    private static final int LIVES = 6, BUYERS = 4, POLICIES = 12, SIGHTS = 8, SIGNS = 60, IMAGES = 2;
    private static final int MOST_ODDS = 9, MOST_CASH = 999, MOST_FUNDS = 9999, LAST_MONTH = 99;
    private static final int MOST_TENS = 9, MOST_TERM = 9, TENTHS = 10;
    private static final int FIRST_SIGN = 33, LAST_SIGN = 126;
    private static final int SIX_DIGITS = 999999, FOUR_SIXES = 6666, WANTS_NONE = 6;
    private static final int MOST_RUIN_TERM = 3, MOST_SHIPS = 12;
    private static final int MOST_SEED = 9999, MOST_YEAR = 60;
    private static final int FINE = 0;
    /** Why an act can not be: the least that fits is told. */
    private static final int HAS_ENDED = 1, ALL_GIVEN = 2, TOO_POOR = 3, NOT_HIS = 4, BOTH_ONE = 5,
            ODDS_AT_END = 6, TOO_LATE = 7;

    private final Book book;
    private final Course course;
    private final Pad pad;
    private final Offers offered;
    private final Worlds worlds;
    /** One that was not kept is null. */
    private final Book[] images;

    public AdmiralGuinea() {
        book = new Book();
        course = new Course();
        pad = new Pad();
        offered = new Offers();
        worlds = new Worlds();
        images = new Book[IMAGES];
    }

    // ---- 1 lives, buyers, months

    public int odds(int life, int v) {
        if (!isLife(life)) {
            return UNKNOWN;
        }
        if (!isWithin(v, 0, MOST_ODDS)) {
            return OUTSIDE;
        }
        int was = book.odds[life];
        book.odds[life] = v;
        return was;
    }

    public int heir(int life) {
        if (!isLife(life)) {
            return UNKNOWN;
        }
        if (!book.hasEnded(life)) {
            return STATE;
        }
        book.ended &= ~(1 << life);
        return book.livesLeft();
    }

    public int cash(int buyer, int v) {
        if (!isBuyer(buyer)) {
            return UNKNOWN;
        }
        if (!isWithin(v, 0, MOST_CASH)) {
            return OUTSIDE;
        }
        int was = book.cash[buyer];
        book.cash[buyer] = v;
        return was;
    }

    public int funds(int v) {
        if (!isWithin(v, 0, MOST_FUNDS)) {
            return OUTSIDE;
        }
        int was = book.funds;
        book.funds = v;
        return was;
    }

    public int say(int sign) {
        if (!isWithin(sign, FIRST_SIGN, LAST_SIGN)) {
            return OUTSIDE;
        }
        return pad.write(sign) ? pad.count : FULL;
    }

    public int wipe() {
        int were = pad.count;
        pad.count = 0;
        return were;
    }

    public int fault() {
        return pad.firstFault();
    }

    // ---- 2 months, prices

    public int judge(int what) {
        if (!isWithin(what, 0, 1)) {
            return OUTSIDE;
        }
        if (pad.firstFault() != NONE) {
            return NO;
        }
        course.readPad(book, pad);
        return what == 0 ? course.badAct : course.why;
    }

    public int done() {
        if (pad.firstFault() != NONE || !course.readPad(book, pad)) {
            return NO;
        }
        book.copyFrom(course.book);
        pad.count = 0;
        return course.acts;
    }

    public int behind(int what) {
        if (!isWithin(what, 0, 7)) {
            return OUTSIDE;
        }
        if (pad.firstFault() != NONE || !course.readPad(book, pad)) {
            return NO;
        }
        if (isBuyer(what)) {
            return course.book.cash[what];
        }
        switch (what) {
            case 4: return course.book.funds;
            case 5: return course.book.month;
            case 6: return course.paid;
            default: return course.firstShort;
        }
    }

    public int policy(int policy, int what) {
        if (!book.stands(policy)) {
            return UNKNOWN;
        }
        switch (what) {
            case 0: return book.holder[policy];
            case 1: return book.life[policy];
            case 2: return book.sum[policy];
            case 3: return book.till[policy];
            default: return OUTSIDE;
        }
    }

    public int price(int life, int tens, int t) {
        if (!isLife(life)) {
            return UNKNOWN;
        }
        if (!isWithin(tens, 1, MOST_TENS) || !isWithin(t, 1, MOST_TERM)) {
            return OUTSIDE;
        }
        if (book.hasEnded(life)) {
            return STATE;
        }
        return priceOf(10 * tens, book.odds[life], t);
    }

    public long chance(int life, int t, int part) {
        if (!isLife(life)) {
            return LOST + UNKNOWN;
        }
        if (!isWithin(t, 0, MOST_TERM) || !isPart(part)) {
            return LOST + OUTSIDE;
        }
        if (book.hasEnded(life)) {
            return LOST + STATE;
        }
        return lowest(endings(book.odds[life], t), power(TENTHS, t), part);
    }

    public int gains(int buyer, int life) {
        if (!isBuyer(buyer) || !isLife(life)) {
            return UNKNOWN;
        }
        return book.gainsOf(buyer, life);
    }

    public int worth(int buyer) {
        if (!isBuyer(buyer)) {
            return UNKNOWN;
        }
        int dearest = NONE;
        int most = 0;
        for (int life = 0; life < LIVES; life++) {
            int gained = book.gainsOf(buyer, life);
            if (gained > most) {
                most = gained;
                dearest = life;
            }
        }
        return dearest;
    }

    // ---- 3 offers, void ones, ruin

    public long best(int buyer, int offers, int knows, int t, int part) {
        int refusal = refusalOfOffers(buyer, offers, knows, t);
        if (refusal == FINE && !isPart(part)) {
            refusal = OUTSIDE;
        }
        if (refusal != FINE) {
            return LOST + refusal;
        }
        offered.lay(book, offers, knows, t);
        return lowest(offered.surplusOf(offered.bestSet(book.cash[buyer])), power(TENTHS, t), part);
    }

    public int buys(int buyer, int offers, int knows, int t) {
        int refusal = refusalOfOffers(buyer, offers, knows, t);
        if (refusal != FINE) {
            return refusal;
        }
        offered.lay(book, offers, knows, t);
        return offered.bestSet(book.cash[buyer]);
    }

    public int voids(int g, int what) {
        if (!isWithin(g, 0, 999) || !isWithin(what, 0, 1)) {
            return OUTSIDE;
        }
        int gone = 0;
        // No policy counts for two twos of a buyer and a life, so each two is settled by itself.
        for (int buyer = 0; buyer < BUYERS; buyer++) {
            for (int life = 0; life < LIVES; life++) {
                gone |= book.fewestVoid(book.groupOf(buyer, life), g);
            }
        }
        return what == 0 ? Integer.bitCount(gone) : gone;
    }

    public long ruin(int t, int what, int part) {
        if (!isWithin(t, 0, MOST_RUIN_TERM) || !isWithin(what, 0, 1) || !isPart(part)) {
            return LOST + OUTSIDE;
        }
        if (what == 1) {
            return lowest(book.meanOwed(t), power(TENTHS, t), part);
        }
        long upper = 0;
        for (int ends = 0; ends < 1 << LIVES; ends++) {
            if (book.owedFor(ends) > book.funds) {
                upper += book.waysOf(ends, t);
            }
        }
        return lowest(upper, power(TENTHS, t * LIVES), part);
    }

    public int tells(int s, int t, int price) {
        if (!isWithin(s, 1, MOST_TENS) || !isWithin(t, 1, MOST_TERM) || !isWithin(price, 0, 99)) {
            return OUTSIDE;
        }
        int told = 0;
        for (int tenths = 1; tenths <= MOST_ODDS; tenths++) {
            if (priceOf(10 * s, tenths, t) == price) {
                told |= 1 << tenths;
            }
        }
        return told;
    }

    public int parts() {
        int twos = 0;
        for (int s = 1; s <= MOST_TENS; s++) {
            for (int t = 1; t <= MOST_TERM; t++) {
                if (tellsApart(10 * s, t)) {
                    twos++;
                }
            }
        }
        return twos;
    }

    // ---- 4 liars, passes, bets

    public int seen(int buyer, int life, int gains) {
        if (!isBuyer(buyer) || !isLife(life)) {
            return UNKNOWN;
        }
        if (!isWithin(gains, 0, 999)) {
            return OUTSIDE;
        }
        return book.note(buyer, life, gains) ? book.sights : FULL;
    }

    public int forget() {
        int were = book.sights;
        book.sights = 0;
        return were;
    }

    public int liars(int what) {
        if (!isWithin(what, 0, 2)) {
            return OUTSIDE;
        }
        long fitting = worlds.fitting(book);
        switch (what) {
            case 0: return Long.bitCount(fitting);
            case 1: return worlds.movedIn(fitting);
            default: return (fitting & 1L) != 0 ? 1 : 0;
        }
    }

    public int ask(int what) {
        if (!isWithin(what, 0, 1)) {
            return OUTSIDE;
        }
        long fitting = worlds.fitting(book);
        if (fitting == 0) {
            return NONE;
        }
        int first = NONE;
        int fewest = Integer.MAX_VALUE;
        for (int buyer = 0; buyer < BUYERS; buyer++) {
            for (int life = 0; life < LIVES; life++) {
                int left = worlds.mostLeft(book, fitting, buyer, life);
                if (left < fewest) {
                    fewest = left;
                    first = 10 * buyer + life;
                }
            }
        }
        return what == 0 ? first : fewest;
    }

    public int pass(int wants) {
        if (!areWants(wants)) {
            return OUTSIDE;
        }
        int passes = 0;
        for (int p = 0; p < POLICIES; p++) {
            if (book.stands(p)) {
                int to = onlyOneWho(wants, book.life[p]);
                if (to == NONE) {
                    return NONE;
                }
                if (to != book.holder[p]) {
                    passes++;
                }
            }
        }
        return passes;
    }

    public long bets(int n, int k, int t, int part) {
        if (!isWithin(n, 0, MOST_SHIPS) || !isWithin(k, 0, n) || !isWithin(t, 0, TENTHS) || !isPart(part)) {
            return LOST + OUTSIDE;
        }
        long ways = choices(n, k) * power(t, k) * power(TENTHS - t, n - k);
        return lowest(ways, power(TENTHS, n), part);
    }

    public int year(int seed, int m, int what) {
        if (!isWithin(seed, 0, MOST_SEED) || !isWithin(m, 1, MOST_YEAR) || !isWithin(what, 0, 2)) {
            return OUTSIDE;
        }
        course.drawMonths(book, seed, m);
        switch (what) {
            case 0: return course.book.allCash();
            case 1: return course.book.funds;
            default: return course.book.livesLeft();
        }
    }

    public int image(int n) {
        if (!isWithin(n, 0, IMAGES - 1)) {
            return OUTSIDE;
        }
        if (images[n] == null) {
            images[n] = new Book();
        }
        images[n].copyFrom(book);
        return 1;
    }

    public int restore(int n) {
        if (!isWithin(n, 0, IMAGES - 1)) {
            return OUTSIDE;
        }
        Book image = images[n];
        if (image == null) {
            return STATE;
        }
        book.copyFrom(image);
        return 1;
    }

    public int told(int what) {
        if (isBuyer(what - 10)) {
            return book.cash[what - 10];
        }
        if (isLife(what - 20)) {
            return book.odds[what - 20];
        }
        switch (what) {
            case 0: return pad.count;
            case 1: return book.month;
            case 2: return book.funds;
            case 3: return book.sights;
            case 4: return book.ended;
            case 5: return book.given;
            case 6: return book.standing;
            default: return OUTSIDE;
        }
    }

    // ---- what the calls are refused by

    private static boolean isWithin(int v, int least, int most) {
        return v >= least && v <= most;
    }

    private static boolean isLife(int life) {
        return isWithin(life, 0, LIVES - 1);
    }

    private static boolean isBuyer(int buyer) {
        return isWithin(buyer, 0, BUYERS - 1);
    }

    private static boolean isPart(int part) {
        return isWithin(part, 0, 1);
    }

    private static int refusalOfOffers(int buyer, int offers, int knows, int t) {
        if (!isBuyer(buyer)) {
            return UNKNOWN;
        }
        if (!isWithin(offers, 0, SIX_DIGITS) || !isWithin(knows, 0, SIX_DIGITS) || !isWithin(t, 1, MOST_TERM)) {
            return OUTSIDE;
        }
        return FINE;
    }

    private static boolean areWants(int wants) {
        if (!isWithin(wants, 0, FOUR_SIXES)) {
            return false;
        }
        for (int buyer = 0; buyer < BUYERS; buyer++) {
            if (digitOf(wants, BUYERS, buyer) > WANTS_NONE) {
                return false;
            }
        }
        return true;
    }

    // ---- numbers

    /** The digit at a place (0 the highest) of a number that is told with so many digits. */
    private static int digitOf(int number, int digits, int place) {
        int rest = number;
        for (int i = digits - 1; i > place; i--) {
            rest /= 10;
        }
        return rest % 10;
    }

    private static long power(long base, int times) {
        long product = 1;
        for (int i = 0; i < times; i++) {
            product *= base;
        }
        return product;
    }

    private static long choices(int n, int k) {
        long ways = 1;
        for (int i = 1; i <= k; i++) {
            ways = ways * (n - k + i) / i;
        }
        return ways;
    }

    /** The chance that a life with these odds ends in t months, in parts of 10 to the power t. */
    private static long endings(int odds, int t) {
        return power(TENTHS, t) - power(TENTHS - odds, t);
    }

    private static int priceOf(int sum, int odds, int t) {
        long whole = power(TENTHS, t);
        if (whole <= 0) {
            return 0;
        }
        return (int) ((sum * endings(odds, t) + whole - 1) / whole);
    }

    /** Whether all odds have prices of their own: prices do not sink as odds rise, so neighbours are enough. */
    private static boolean tellsApart(int sum, int t) {
        int before = priceOf(sum, 1, t);
        for (int tenths = 2; tenths <= MOST_ODDS; tenths++) {
            int now = priceOf(sum, tenths, t);
            if (now == before) {
                return false;
            }
            before = now;
        }
        return true;
    }

    private static long lowest(long upper, long lower, int part) {
        long common = commonDivisor(upper, lower);
        if (common <= 0) {
            return part == 0 ? upper : lower;
        }
        return (part == 0 ? upper : lower) / common;
    }

    private static long commonDivisor(long a, long b) {
        long big = a;
        long small = b;
        // Some 90 steps are enough for any two longs.
        for (int i = 0; i < 200 && small != 0; i++) {
            long rest = big % small;
            big = small;
            small = rest;
        }
        return big;
    }

    /** The one buyer who wants the policies on a life; NONE: nobody does, or more than one. */
    private static int onlyOneWho(int wants, int life) {
        int found = NONE;
        for (int buyer = 0; buyer < BUYERS; buyer++) {
            if (digitOf(wants, BUYERS, buyer) == life) {
                if (found != NONE) {
                    return NONE;
                }
                found = buyer;
            }
        }
        return found;
    }

    /** All that is so but for the pad: what an image keeps. */
    private static final class Book {
        int month;
        int funds;
        /** Lives that have ended, as bits. */
        int ended;
        /** How many numbers of policies are given; the next one to be given, too. */
        int given;
        /** Policies that there are, as bits. */
        int standing;
        int sights;
        final int[] odds;
        final int[] cash;
        final int[] holder;
        final int[] life;
        final int[] sum;
        final int[] till;
        final int[] sightBuyer;
        final int[] sightLife;
        final int[] sightGains;

        Book() {
            month = 0;
            funds = 1000;
            odds = new int[LIVES];
            for (int i = 0; i < LIVES; i++) {
                odds[i] = 1;
            }
            cash = new int[BUYERS];
            for (int i = 0; i < BUYERS; i++) {
                cash[i] = 100;
            }
            holder = new int[POLICIES];
            life = new int[POLICIES];
            sum = new int[POLICIES];
            till = new int[POLICIES];
            sightBuyer = new int[SIGHTS];
            sightLife = new int[SIGHTS];
            sightGains = new int[SIGHTS];
        }

        void copyFrom(Book other) {
            month = other.month;
            funds = other.funds;
            ended = other.ended;
            given = other.given;
            standing = other.standing;
            sights = other.sights;
            System.arraycopy(other.odds, 0, odds, 0, LIVES);
            System.arraycopy(other.cash, 0, cash, 0, BUYERS);
            System.arraycopy(other.holder, 0, holder, 0, POLICIES);
            System.arraycopy(other.life, 0, life, 0, POLICIES);
            System.arraycopy(other.sum, 0, sum, 0, POLICIES);
            System.arraycopy(other.till, 0, till, 0, POLICIES);
            System.arraycopy(other.sightBuyer, 0, sightBuyer, 0, SIGHTS);
            System.arraycopy(other.sightLife, 0, sightLife, 0, SIGHTS);
            System.arraycopy(other.sightGains, 0, sightGains, 0, SIGHTS);
        }

        boolean hasEnded(int who) {
            return (ended >> who & 1) != 0;
        }

        int livesLeft() {
            return LIVES - Integer.bitCount(ended);
        }

        boolean stands(int p) {
            return isWithin(p, 0, POLICIES - 1) && (standing >> p & 1) != 0;
        }

        int allCash() {
            int all = 0;
            for (int buyer = 0; buyer < BUYERS; buyer++) {
                all += cash[buyer];
            }
            return all;
        }

        // Acts: each answers why it can not be, and changes nothing then; FINE when it is so.

        int buyPolicy(int buyer, int who, int tens, int t) {
            if (!isBuyer(buyer) || !isLife(who) || hasEnded(who)) {
                return HAS_ENDED;
            }
            if (given >= POLICIES) {
                return ALL_GIVEN;
            }
            int cost = priceOf(10 * tens, odds[who], t);
            if (cash[buyer] < cost) {
                return TOO_POOR;
            }
            if (month + t - 1 > LAST_MONTH) {
                return TOO_LATE;
            }
            cash[buyer] -= cost;
            funds = Math.min(MOST_FUNDS, funds + cost);
            enter(buyer, who, 10 * tens, month + t - 1);
            return FINE;
        }

        int passOn(int from, int p, int to) {
            if (!isBuyer(to) || cash[to] < 1) {
                return TOO_POOR;
            }
            if (!isBuyer(from) || !stands(p) || holder[p] != from) {
                return NOT_HIS;
            }
            if (from == to) {
                return BOTH_ONE;
            }
            cash[to]--;
            receive(from, 1);
            holder[p] = to;
            return FINE;
        }

        int walk(int who) {
            if (!isLife(who) || hasEnded(who)) {
                return HAS_ENDED;
            }
            if (odds[who] <= 0) {
                return ODDS_AT_END;
            }
            odds[who]--;
            return FINE;
        }

        int rumour(int who) {
            if (!isLife(who) || hasEnded(who)) {
                return HAS_ENDED;
            }
            if (odds[who] >= MOST_ODDS) {
                return ODDS_AT_END;
            }
            odds[who]++;
            return FINE;
        }

        int endLife(int who) {
            if (!isLife(who) || hasEnded(who)) {
                return HAS_ENDED;
            }
            ended |= 1 << who;
            for (int p = 0; p < POLICIES; p++) {
                if (stands(p) && life[p] == who) {
                    int paid = Math.min(sum[p], funds);
                    receive(holder[p], paid);
                    funds -= paid;
                    strike(p);
                }
            }
            return FINE;
        }

        int turnMonth() {
            if (month >= LAST_MONTH) {
                return TOO_LATE;
            }
            for (int p = 0; p < POLICIES; p++) {
                if (stands(p) && till[p] <= month) {
                    strike(p);
                }
            }
            month++;
            return FINE;
        }

        private void enter(int buyer, int who, int total, int last) {
            if (!isWithin(given, 0, POLICIES - 1)) {
                return;
            }
            holder[given] = buyer;
            life[given] = who;
            sum[given] = total;
            till[given] = last;
            standing |= 1 << given;
            given++;
        }

        private void strike(int p) {
            standing &= ~(1 << p);
            if (standing == 0) {
                given = 0;
            }
        }

        private void receive(int buyer, int sumMore) {
            // Not isBuyer: payments are the deepest calls, and the rules count each level.
            if (isWithin(buyer, 0, BUYERS - 1)) {
                cash[buyer] = Math.min(MOST_CASH, cash[buyer] + sumMore);
            }
        }

        // Sums.

        /** The policies that a buyer holds on a life, as bits. */
        int groupOf(int buyer, int who) {
            int group = 0;
            for (int p = 0; p < POLICIES; p++) {
                if (stands(p) && holder[p] == buyer && life[p] == who) {
                    group |= 1 << p;
                }
            }
            return group;
        }

        int sumOf(int group) {
            int total = 0;
            for (int p = 0; p < POLICIES; p++) {
                if ((group >> p & 1) != 0) {
                    total += sum[p];
                }
            }
            return total;
        }

        int gainsOf(int buyer, int who) {
            return sumOf(groupOf(buyer, who));
        }

        /** What must be paid together when the lives of a set end. */
        int owedFor(int lives) {
            int total = 0;
            for (int p = 0; p < POLICIES; p++) {
                if (stands(p) && (lives >> life[p] & 1) != 0) {
                    total += sum[p];
                }
            }
            return total;
        }

        /** The fewest policies of a group, least as bits, without which the rest is no more than g. */
        int fewestVoid(int group, int g) {
            int found = group;
            int fewest = Integer.bitCount(group);
            int some = 0;
            // The sets of a group come as rising numbers, so the first of as few is the least.
            for (int i = 0; i < 1 << POLICIES; i++) {
                if (Integer.bitCount(some) < fewest && sumOf(group & ~some) <= g) {
                    found = some;
                    fewest = Integer.bitCount(some);
                }
                some = (some - group) & group;
                if (some == 0) {
                    break;
                }
            }
            return found;
        }

        /** The chance of a life, in parts of 10 to the power t; one that has ended does not end again. */
        long endingsOf(int who, int t) {
            return !isLife(who) || hasEnded(who) ? 0 : endings(odds[who], t);
        }

        /** The chance that the lives of a set end and no others, in parts of 10 to the power 6 t. */
        long waysOf(int lives, int t) {
            long ways = 1;
            for (int who = 0; who < LIVES; who++) {
                long ends = endingsOf(who, t);
                ways *= (lives >> who & 1) != 0 ? ends : power(TENTHS, t) - ends;
            }
            return ways;
        }

        /** What must be paid in the mean, in parts of 10 to the power t. */
        long meanOwed(int t) {
            long mean = 0;
            for (int who = 0; who < LIVES; who++) {
                mean += owedFor(1 << who) * endingsOf(who, t);
            }
            return mean;
        }

        /** Whether there was room for a sight more. */
        boolean note(int buyer, int who, int said) {
            if (!isWithin(sights, 0, SIGHTS - 1)) {
                return false;
            }
            sightBuyer[sights] = buyer;
            sightLife[sights] = who;
            sightGains[sights] = said;
            sights++;
            return true;
        }
    }

    /** The signs of months, and which of them can stand behind which. */
    private static final class Pad {
        /** What the next sign belongs to: a new act, or the rest of one that has begun. */
        static final int ACT = 0, BOUGHT_OR_PASSED = 1, TENS = 2, TERM = 3, RECEIVER = 4, FATE = 5, WRONG = -1;

        int count;
        private final int[] signs;

        Pad() {
            signs = new int[SIGNS];
        }

        /** Whether there was room for a sign more. */
        boolean write(int sign) {
            if (!isWithin(count, 0, SIGNS - 1)) {
                return false;
            }
            signs[count] = sign;
            count++;
            return true;
        }

        int signAt(int place) {
            return isWithin(place, 0, SIGNS - 1) ? signs[place] : 0;
        }

        int firstFault() {
            int step = ACT;
            for (int i = 0; i < count; i++) {
                step = stepBehind(step, signAt(i));
                if (step == WRONG) {
                    return i;
                }
            }
            return step == ACT ? NONE : count;
        }

        static int stepBehind(int step, int sign) {
            switch (step) {
                case ACT: return stepOfFirst(sign);
                case BOUGHT_OR_PASSED: return stepOfSecond(sign);
                case TENS: return isWithin(sign, '1', '9') ? TERM : WRONG;
                case TERM: return isWithin(sign, '1', '9') ? ACT : WRONG;
                case RECEIVER: return isBuyer(buyerOf(sign)) ? ACT : WRONG;
                case FATE: return sign == '+' || sign == '-' || sign == 'x' ? ACT : WRONG;
                default: return WRONG;
            }
        }

        private static int stepOfFirst(int sign) {
            if (sign == '.') {
                return ACT;
            }
            if (isLife(lifeOf(sign))) {
                return FATE;
            }
            return isBuyer(buyerOf(sign)) ? BOUGHT_OR_PASSED : WRONG;
        }

        private static int stepOfSecond(int sign) {
            if (isLife(lifeOf(sign))) {
                return TENS;
            }
            return isWithin(sign, '0', '9') ? RECEIVER : WRONG;
        }

        static int lifeOf(int sign) {
            return sign - 'A';
        }

        static int buyerOf(int sign) {
            return sign - 'a';
        }
    }

    /** What would come: months are tried on a copy of the book. */
    private static final class Course {
        final Book book;
        int acts;
        int badAct;
        int why;
        int paid;
        int firstShort;

        Course() {
            book = new Book();
        }

        /** Tries the acts of a pad without a fault, up to the first that can not be: whether there is none. */
        boolean readPad(Book from, Pad pad) {
            book.copyFrom(from);
            acts = 0;
            badAct = NONE;
            why = NONE;
            paid = 0;
            firstShort = NONE;
            int step = Pad.ACT;
            int start = 0;
            for (int i = 0; i < pad.count && badAct == NONE; i++) {
                step = Pad.stepBehind(step, pad.signAt(i));
                if (step == Pad.ACT) {
                    int reason = tryAct(pad, start);
                    if (reason != FINE) {
                        badAct = acts;
                        why = reason;
                    }
                    start = i + 1;
                    acts++;
                }
            }
            return badAct == NONE;
        }

        private int tryAct(Pad pad, int start) {
            int first = pad.signAt(start);
            int second = pad.signAt(start + 1);
            int third = pad.signAt(start + 2);
            if (first == '.') {
                return book.turnMonth();
            }
            if (isLife(Pad.lifeOf(first))) {
                return tryFate(Pad.lifeOf(first), second);
            }
            int buyer = Pad.buyerOf(first);
            if (isLife(Pad.lifeOf(second))) {
                return book.buyPolicy(buyer, Pad.lifeOf(second), third - '0', pad.signAt(start + 3) - '0');
            }
            return book.passOn(buyer, second - '0', Pad.buyerOf(third));
        }

        private int tryFate(int life, int sign) {
            if (sign == '+') {
                return book.walk(life);
            }
            if (sign == '-') {
                return book.rumour(life);
            }
            int owed = book.owedFor(1 << life);
            int before = book.funds;
            int reason = book.endLife(life);
            int out = before - book.funds;
            paid += out;
            if (reason == FINE && out < owed && firstShort == NONE) {
                firstShort = acts;
            }
            return reason;
        }

        void drawMonths(Book from, int seed, int months) {
            book.copyFrom(from);
            int x = seed;
            for (int i = 0; i < months; i++) {
                x = (75 * x + 74) % 65537;
                int life = x % LIVES;
                if (!book.hasEnded(life) && x / 6 % 10 < book.odds[life]) {
                    book.endLife(life);
                } else {
                    book.buyPolicy(x / 60 % BUYERS, life, 1, 1 + x / 240 % 9);
                }
                book.turnMonth();
            }
        }
    }

    /** What is offered on each life, and how much it brings by what a buyer knows. */
    private static final class Offers {
        private final int[] cost;
        /** What each brings in the mean, its price taken off, in parts of 10 to the power t. */
        private final long[] surplus;

        Offers() {
            cost = new int[LIVES];
            surplus = new long[LIVES];
        }

        void lay(Book book, int offers, int knows, int t) {
            for (int life = 0; life < LIVES; life++) {
                int sum = book.hasEnded(life) ? 0 : 10 * digitOf(offers, LIVES, life);
                cost[life] = priceOf(sum, book.odds[life], t);
                surplus[life] = sum * endings(digitOf(knows, LIVES, life), t) - cost[life] * power(TENTHS, t);
            }
        }

        /** The set of lives, least as bits, that brings most of those that cash is enough for. */
        int bestSet(int cash) {
            int found = 0;
            long most = 0;
            for (int set = 1; set < 1 << LIVES; set++) {
                if (costOf(set) <= cash) {
                    long brings = surplusOf(set);
                    if (brings > most) {
                        most = brings;
                        found = set;
                    }
                }
            }
            return found;
        }

        private int costOf(int set) {
            int total = 0;
            for (int life = 0; life < LIVES; life++) {
                if ((set >> life & 1) != 0) {
                    total += cost[life];
                }
            }
            return total;
        }

        long surplusOf(int set) {
            long total = 0;
            for (int life = 0; life < LIVES; life++) {
                if ((set >> life & 1) != 0) {
                    total += surplus[life];
                }
            }
            return total;
        }
    }

    /** Worlds as bits: bit 0 is the book as it stands, bit 1 + 4 p + b that policy p is buyer b's instead. */
    private static final class Worlds {
        private static final int ALL = 1 + POLICIES * BUYERS, MOST_TENS_GAINED = 9 * POLICIES;

        /** How many worlds have each answer, told in tens. */
        private final int[] tally;

        Worlds() {
            tally = new int[MOST_TENS_GAINED + 1];
        }

        private static int policyOf(int world) {
            return (world - 1) / BUYERS;
        }

        private static int holderIn(int world) {
            return (world - 1) % BUYERS;
        }

        /** The worlds by which all sights are so. */
        long fitting(Book book) {
            long worlds = everyWorld(book);
            for (int i = 0; i < book.sights && i < SIGHTS; i++) {
                worlds &= worldsThatSay(book, worlds, i);
            }
            return worlds;
        }

        private static long everyWorld(Book book) {
            long worlds = 1L;
            for (int world = 1; world < ALL; world++) {
                int p = policyOf(world);
                if (book.stands(p) && book.holder[p] != holderIn(world)) {
                    worlds |= 1L << world;
                }
            }
            return worlds;
        }

        private static long worldsThatSay(Book book, long among, int sight) {
            int buyer = book.sightBuyer[sight];
            int life = book.sightLife[sight];
            int gained = book.gainsOf(buyer, life);
            long worlds = 0;
            for (int world = 0; world < ALL; world++) {
                if ((among >> world & 1L) != 0
                        && gained + moreIn(book, world, buyer, life) == book.sightGains[sight]) {
                    worlds |= 1L << world;
                }
            }
            return worlds;
        }

        /** How much more a buyer gains by a life in a world than by the book. */
        private static int moreIn(Book book, int world, int buyer, int life) {
            int p = policyOf(world);
            if (world == 0 || !book.stands(p) || book.life[p] != life) {
                return 0;
            }
            if (holderIn(world) == buyer) {
                return book.sum[p];
            }
            return book.holder[p] == buyer ? -book.sum[p] : 0;
        }

        /** The policies that are another's in some of these worlds, as bits. */
        int movedIn(long among) {
            int moved = 0;
            for (int world = 1; world < ALL; world++) {
                if ((among >> world & 1L) != 0) {
                    moved |= 1 << policyOf(world);
                }
            }
            return moved;
        }

        /** How many of these worlds are left at the most when a buyer says what he gains by a life. */
        int mostLeft(Book book, long among, int buyer, int life) {
            for (int i = 0; i < tally.length; i++) {
                tally[i] = 0;
            }
            int gained = book.gainsOf(buyer, life);
            int most = 0;
            for (int world = 0; world < ALL; world++) {
                if ((among >> world & 1L) != 0) {
                    int said = (gained + moreIn(book, world, buyer, life)) / 10;
                    if (isWithin(said, 0, tally.length - 1)) {
                        tally[said]++;
                        most = Math.max(most, tally[said]);
                    }
                }
            }
            return most;
        }
    }
}
