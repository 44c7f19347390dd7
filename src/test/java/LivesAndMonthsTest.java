/** Promises 1 to 8: a new object, odds, heir, cash, funds, say, wipe, fault. */
public final class LivesAndMonthsTest {
    private static final int MIN = Integer.MIN_VALUE, MAX = Integer.MAX_VALUE;
    private static final Check check = new Check();

    public static void main(String[] args) {
        newObject();
        odds();
        heir();
        cash();
        funds();
        sayAndWipe();
        fault();
        faultOfEverySign();
        check.end();
    }

    private static void newObject() {
        AdmiralGuinea x = new AdmiralGuinea();
        check.due("signs", x.told(0), 0);
        check.due("month", x.told(1), 0);
        check.due("funds", x.told(2), 1000);
        check.due("sights", x.told(3), 0);
        check.due("ended", x.told(4), 0);
        check.due("given", x.told(5), 0);
        check.due("policies", x.told(6), 0);
        for (int b = 0; b < 4; b++) check.due("cash", x.told(10 + b), 100);
        for (int l = 0; l < 6; l++) check.due("odds", x.told(20 + l), 1);
        for (int p = 0; p < 12; p++) check.due("policy", x.policy(p, 0), -1);
        check.due("image 0", x.restore(0), -3);
        check.due("image 1", x.restore(1), -3);
    }

    private static void odds() {
        AdmiralGuinea x = new AdmiralGuinea();
        for (int l = 0; l < 6; l++) {
            check.due("odds were", x.odds(l, 9), 1);
            check.due("odds were", x.odds(l, l), 9);
        }
        for (int l = 0; l < 6; l++) check.due("odds of each", x.told(20 + l), l);
        check.due("odds(-1, 0)", x.odds(-1, 0), -1);
        check.due("odds(6, 0)", x.odds(6, 0), -1);
        check.due("odds(6, 10)", x.odds(6, 10), -1);
        check.due("odds(MAX, 10)", x.odds(MAX, 10), -1);
        check.due("odds(MIN, 1)", x.odds(MIN, 1), -1);
        check.due("odds(0, -1)", x.odds(0, -1), -2);
        check.due("odds(0, 10)", x.odds(0, 10), -2);
        check.due("odds(0, MAX)", x.odds(0, MAX), -2);
        check.due("unchanged", x.told(20), 0);
        check.does(x, "Fx", 1);
        check.due("odds of one that has ended", x.odds(5, 3), 5);
        check.due("odds of one that has ended", x.told(25), 3);
        check.due("it is ended still", x.told(4), 32);
    }

    private static void heir() {
        AdmiralGuinea x = new AdmiralGuinea();
        check.due("heir(-1)", x.heir(-1), -1);
        check.due("heir(6)", x.heir(6), -1);
        check.due("heir(MIN)", x.heir(MIN), -1);
        check.due("heir(3)", x.heir(3), -3);
        x.odds(2, 7);
        check.does(x, "AxCxFx", 3);
        check.due("ended", x.told(4), 37);
        check.due("heir(1)", x.heir(1), -3);
        check.due("heir(2)", x.heir(2), 4);
        check.due("odds as they were", x.told(22), 7);
        check.due("ended", x.told(4), 33);
        check.due("heir(2) again", x.heir(2), -3);
        check.due("heir(0)", x.heir(0), 5);
        check.due("heir(5)", x.heir(5), 6);
        check.due("ended", x.told(4), 0);
        check.does(x, "aC11", 1);
        check.due("a new one is insured", x.gains(0, 2), 10);
    }

    private static void cash() {
        AdmiralGuinea x = new AdmiralGuinea();
        for (int b = 0; b < 4; b++) {
            check.due("cash was", x.cash(b, 999), 100);
            check.due("cash was", x.cash(b, b), 999);
        }
        for (int b = 0; b < 4; b++) check.due("cash of each", x.told(10 + b), b);
        check.due("cash(-1, 0)", x.cash(-1, 0), -1);
        check.due("cash(4, 1000)", x.cash(4, 1000), -1);
        check.due("cash(MAX, 0)", x.cash(MAX, 0), -1);
        check.due("cash(3, -1)", x.cash(3, -1), -2);
        check.due("cash(3, 1000)", x.cash(3, 1000), -2);
        check.due("unchanged", x.told(13), 3);
    }

    private static void funds() {
        AdmiralGuinea x = new AdmiralGuinea();
        check.due("funds(0)", x.funds(0), 1000);
        check.due("funds(9999)", x.funds(9999), 0);
        check.due("funds(-1)", x.funds(-1), -2);
        check.due("funds(10000)", x.funds(10000), -2);
        check.due("funds(MIN)", x.funds(MIN), -2);
        check.due("unchanged", x.told(2), 9999);
    }

    private static void sayAndWipe() {
        AdmiralGuinea x = new AdmiralGuinea();
        check.due("say(32)", x.say(32), -2);
        check.due("say(127)", x.say(127), -2);
        check.due("say(0)", x.say(0), -2);
        check.due("say(-1)", x.say(-1), -2);
        check.due("say(MAX)", x.say(MAX), -2);
        check.due("none", x.told(0), 0);
        check.due("say(33)", x.say(33), 1);
        check.due("say(126)", x.say(126), 2);
        for (int i = 3; i <= 60; i++) check.due("say", x.say('.'), i);
        check.due("full", x.say('.'), -4);
        check.due("outside ahead of full", x.say(32), -2);
        check.due("signs", x.told(0), 60);
        check.due("wipe", x.wipe(), 60);
        check.due("wipe", x.wipe(), 0);
        check.due("say", x.say('.'), 1);
        check.due("only the new sign", x.fault(), -6);
    }

    private static void fault() {
        faultOf("", -6);
        faultOf("aA11", -6);
        faultOf("dF99", -6);
        faultOf("a0d", -6);
        faultOf("d9a", -6);
        faultOf("A+B-Cx.", -6);
        faultOf("aA11b0cA+.", -6);
        faultOf("a", 1);
        faultOf("aA", 2);
        faultOf("aA1", 3);
        faultOf("a0", 2);
        faultOf("A", 1);
        faultOf("..F", 3);
        faultOf("aA01", 2);
        faultOf("aA10", 3);
        faultOf("aAA", 2);
        faultOf("e", 0);
        faultOf("G", 0);
        faultOf("@", 0);
        faultOf("`", 0);
        faultOf("1", 0);
        faultOf("+", 0);
        faultOf("aa", 1);
        faultOf("a+", 1);
        faultOf("aG", 1);
        faultOf("a.", 1);
        faultOf("a0e", 2);
        faultOf("a0A", 2);
        faultOf("a00", 2);
        faultOf("AX", 1);
        faultOf("A1", 1);
        faultOf("A.", 1);
        faultOf(".x", 1);
        faultOf("aA11e", 4);
        faultOf("..a0b-", 5);
    }

    private static void faultOf(String text, int want) {
        AdmiralGuinea x = new AdmiralGuinea();
        check.pad(x, text);
        check.due("fault of " + text, x.fault(), want);
    }

    /** Behind each beginning, every sign: whether it can stand there. */
    private static void faultOfEverySign() {
        String[] beginnings = {"", "a", "aA", "aA1", "a0", "A"};
        String[] follow = {"abcdABCDEF.", "ABCDEF0123456789", "123456789", "123456789", "abcd", "+-x"};
        AdmiralGuinea x = new AdmiralGuinea();
        for (int i = 0; i < beginnings.length; i++) {
            for (char sign = 33; sign <= 126; sign++) {
                x = new AdmiralGuinea();
                check.pad(x, beginnings[i]);
                x.say(sign);
                boolean stands = x.fault() != beginnings[i].length();
                check.due("can stand behind " + beginnings[i] + ": " + sign, stands ? 1 : 0,
                        follow[i].indexOf(sign) >= 0 ? 1 : 0);
            }
        }
    }
}
