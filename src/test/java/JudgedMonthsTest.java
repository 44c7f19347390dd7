/** Promises 9 to 12: judge, done, behind, policy. */
public final class JudgedMonthsTest {
    private static final Check check = new Check();

    public static void main(String[] args) {
        wrongInputs();
        buying();
        reasonsToBuy();
        passing();
        reasonsToPass();
        walksAndRumours();
        endings();
        shortPayment();
        monthsEnd();
        numbersAreGiven();
        behindIsNotDone();
        policyAnswers();
        wholePad();
        check.end();
    }

    private static void wrongInputs() {
        AdmiralGuinea x = new AdmiralGuinea();
        check.due("judge(-1)", x.judge(-1), -2);
        check.due("judge(2)", x.judge(2), -2);
        check.due("behind(-1)", x.behind(-1), -2);
        check.due("behind(8)", x.behind(8), -2);
        x.say('e');
        check.due("outside ahead of no", x.judge(2), -2);
        check.due("outside ahead of no", x.behind(8), -2);
        check.due("judge(0)", x.judge(0), -5);
        check.due("judge(1)", x.judge(1), -5);
        check.due("done()", x.done(), -5);
        for (int w = 0; w < 8; w++) check.due("behind", x.behind(w), -5);
        check.due("sign is left", x.told(0), 1);
        x.wipe();
        check.due("done of nothing", x.done(), 0);
        check.due("judge of nothing", x.judge(0), -6);
        check.due("judge of nothing", x.judge(1), -6);
    }

    private static void buying() {
        AdmiralGuinea x = new AdmiralGuinea();
        x.odds(1, 3);
        check.does(x, "bB45.cF19", 3);
        check.due("cash", x.told(11), 100 - 34);
        check.due("cash", x.told(12), 100 - 7);
        check.due("funds", x.told(2), 1000 + 34 + 7);
        check.due("pad is empty", x.told(0), 0);
        int[] first = {1, 1, 40, 4};
        int[] second = {2, 5, 10, 9};
        for (int w = 0; w < 4; w++) {
            check.due("policy 0 " + w, x.policy(0, w), first[w]);
            check.due("policy 1 " + w, x.policy(1, w), second[w]);
        }
        x.funds(9998);
        x.odds(0, 9);
        check.does(x, "aA51", 1);
        check.due("funds 9999 at most", x.told(2), 9999);
        check.due("but he has paid it all", x.told(10), 55);
        x.odds(3, 0);
        x.cash(3, 0);
        check.does(x, "dD99", 1);
        check.due("for nothing", x.told(13), 0);
        check.due("yet he gains", x.gains(3, 3), 90);
    }

    private static void reasonsToBuy() {
        AdmiralGuinea x = new AdmiralGuinea();
        check.badAct(x, "AxaA11", 1, 1);
        x.odds(0, 5);
        x.cash(0, 44);
        check.badAct(x, "aA91", 0, 3);
        x.cash(0, 45);
        check.does(x, "aA91", 1);
        check.due("all of it", x.told(10), 0);
        x.cash(0, 999);
        check.does(x, "aA11aA11aA11aA11aA11aA11aA11aA11aA11aA11aA11", 11);
        x.cash(0, 0);
        check.badAct(x, "aA11", 0, 2);
        check.badAct(x, ".aA11", 1, 3);
        check.does(x, "Ax", 1);
        check.badAct(x, "aA11", 0, 1);
        months(x, 91);
        check.due("month", x.told(1), 91);
        x.cash(0, 100);
        check.does(x, "aB19", 1);
        check.due("till 99", x.policy(0, 3), 99);
        check.does(x, ".", 1);
        check.badAct(x, "aB18aB19", 1, 7);
        x.cash(0, 0);
        check.badAct(x, "aB19", 0, 3);
    }

    private static void months(AdmiralGuinea x, int n) {
        for (int i = 0; i < n; i++) check.does(x, ".", 1);
    }

    private static void passing() {
        AdmiralGuinea x = new AdmiralGuinea();
        x.cash(2, 1);
        check.does(x, "aA12a0cc0d", 3);
        check.due("first", x.told(10), 100 - 2 + 1);
        check.due("second gave and was given", x.told(12), 1);
        check.due("third", x.told(13), 99);
        check.due("holds it", x.policy(0, 0), 3);
        x.cash(3, 999);
        x.cash(1, 50);
        check.does(x, "d0b", 1);
        check.due("999 at most", x.told(13), 999);
        check.due("he gave it all the same", x.told(11), 49);
        check.does(x, "aA11aA11aA11aA11aA11aA11aA11aA11aA11", 9);
        check.does(x, "a9b", 1);
        check.due("policy 9", x.policy(9, 0), 1);
    }

    private static void reasonsToPass() {
        AdmiralGuinea x = new AdmiralGuinea();
        check.does(x, "aA12", 1);
        check.badAct(x, "a1b", 0, 4);
        check.badAct(x, "b0c", 0, 4);
        check.badAct(x, "b0b", 0, 4);
        check.badAct(x, "a0a", 0, 5);
        check.badAct(x, "a0ba0c", 1, 4);
        x.cash(1, 0);
        check.badAct(x, "a0b", 0, 3);
        check.badAct(x, "c5b", 0, 3);
        x.cash(0, 0);
        check.badAct(x, "a0a", 0, 3);
        check.badAct(x, "..a0c", 2, 4);
        check.badAct(x, "Axa0c", 1, 4);
    }

    private static void walksAndRumours() {
        AdmiralGuinea x = new AdmiralGuinea();
        check.does(x, "A+B-B-", 3);
        check.due("walk", x.told(20), 0);
        check.due("rumour", x.told(21), 3);
        check.badAct(x, "A+", 0, 6);
        check.badAct(x, "A-A+A+", 2, 6);
        x.odds(2, 9);
        check.badAct(x, "C-", 0, 6);
        check.badAct(x, "C+C-C-", 2, 6);
        check.badAct(x, "CxC-", 1, 1);
        check.badAct(x, "AxA+", 1, 1);
        check.badAct(x, "CxCx", 1, 1);
        check.pad(x, "B-aB91");
        check.due("the price by the new odds", x.behind(0), 100 - 36);
    }

    private static void endings() {
        AdmiralGuinea x = new AdmiralGuinea();
        x.cash(1, 950);
        check.does(x, "aA12bA92aB32bA11", 4);
        check.due("cash", x.told(11), 950 - 18 - 1);
        check.due("cash", x.told(10), 100 - 2 - 6);
        int funds = x.told(2);
        check.pad(x, "Ax");
        check.due("paid", x.behind(6), 110);
        check.due("whole", x.behind(7), -6);
        check.due("999 at most", x.behind(1), 999);
        check.due("cash", x.behind(0), 102);
        check.due("funds are less by all that is paid", x.behind(4), funds - 110);
        check.due("done", x.done(), 1);
        check.due("left", x.told(6), 4);
        check.due("given", x.told(5), 4);
        check.due("paid: no more", x.policy(1, 0), -1);
        check.due("ended", x.told(4), 1);
        check.due("odds are as they were", x.told(20), 1);
    }

    private static void shortPayment() {
        AdmiralGuinea x = new AdmiralGuinea();
        check.does(x, "aA51bA51cB21dC31", 4);
        x.funds(70);
        for (int b = 0; b < 4; b++) x.cash(b, 0);
        check.pad(x, ".");
        check.due("over: nothing is short", x.behind(7), -6);
        check.pad(x, "BxAxCx");
        check.due("the least number first", x.behind(0), 50);
        check.due("nothing is left for it", x.behind(1), 0);
        check.due("the first of them", x.behind(2), 20);
        check.due("none", x.behind(3), 0);
        check.due("paid", x.behind(6), 70);
        check.due("short", x.behind(7), 1);
        check.due("funds", x.behind(4), 0);
        check.pad(x, "D+AxBxCx");
        check.due("as much as funds are", x.behind(1), 20);
        check.due("nobody short but by act 1", x.behind(7), 1);
        check.pad(x, "BxCx");
        check.due("whole", x.behind(7), -6);
        check.due("paid", x.behind(6), 50);
        x.funds(100);
        check.pad(x, "AxBx");
        check.due("the sums are paid just to nought, then short", x.behind(7), 1);
        x.funds(0);
        check.pad(x, "Ax.D-");
        check.due("paid in all months of the pad", x.behind(6), 0);
        check.due("short", x.behind(7), 0);
        x.funds(100);
        check.pad(x, "Ax.");
        check.due("paid in all months of the pad", x.behind(6), 100);
    }

    private static void monthsEnd() {
        AdmiralGuinea x = new AdmiralGuinea();
        check.does(x, "aA11aA12.", 3);
        check.due("one is over", x.told(6), 2);
        check.due("month", x.told(1), 1);
        check.pad(x, "Ax");
        check.due("holds in its last month", x.behind(6), 10);
        check.pad(x, ".Ax");
        check.due("over behind it", x.behind(6), 0);
        x.wipe();
        months(x, 98);
        check.due("month 99", x.told(1), 99);
        check.badAct(x, ".", 0, 7);
        check.does(x, "aA11", 1);
        check.badAct(x, "aA12", 0, 7);
        check.due("the last month", x.policy(0, 3), 99);
        check.badAct(x, "A-.", 1, 7);
    }

    private static void numbersAreGiven() {
        AdmiralGuinea x = new AdmiralGuinea();
        check.does(x, "aA11aB12aA11", 3);
        check.does(x, "Ax", 1);
        check.due("policies", x.told(6), 2);
        check.due("given", x.told(5), 3);
        check.does(x, "bC11", 1);
        check.due("the next number", x.policy(3, 0), 1);
        check.does(x, "BxCx", 2);
        check.due("none at all", x.told(5), 0);
        check.does(x, "bD11", 1);
        check.due("the next one is 0", x.policy(0, 0), 1);
        check.does(x, "bD11bD11bD11bD11bD11bD11bD11bD11bD11bD11bD11", 11);
        check.badAct(x, "bD11", 0, 2);
        check.pad(x, "DxbE11");
        check.due("anew in the same months", x.judge(0), -6);
        check.does(x, "DxbE11", 2);
        check.due("number 0", x.told(6), 1);
        check.does(x, "Ex", 1);
        check.due("given", x.told(5), 0);
    }

    private static void behindIsNotDone() {
        AdmiralGuinea x = new AdmiralGuinea();
        check.pad(x, "aA11A-Bx.");
        int[] want = {99, 100, 100, 100, 1001, 1, 0, -6};
        for (int w = 0; w < 8; w++) check.due("behind " + w, x.behind(w), want[w]);
        check.due("judge", x.judge(0), -6);
        check.due("signs", x.told(0), 9);
        check.due("month", x.told(1), 0);
        check.due("funds", x.told(2), 1000);
        check.due("ended", x.told(4), 0);
        check.due("given", x.told(5), 0);
        check.due("policies", x.told(6), 0);
        check.due("cash", x.told(10), 100);
        check.due("odds", x.told(20), 1);
        check.due("acts", x.done(), 4);
        check.due("month", x.told(1), 1);
        check.due("ended", x.told(4), 2);
        check.due("odds", x.told(20), 2);
    }

    private static void policyAnswers() {
        AdmiralGuinea x = new AdmiralGuinea();
        check.does(x, "dE73", 1);
        check.due("policy(0, 0)", x.policy(0, 0), 3);
        check.due("policy(0, 1)", x.policy(0, 1), 4);
        check.due("policy(0, 2)", x.policy(0, 2), 70);
        check.due("policy(0, 3)", x.policy(0, 3), 2);
        check.due("policy(0, 4)", x.policy(0, 4), -2);
        check.due("policy(0, -1)", x.policy(0, -1), -2);
        check.due("policy(1, 4)", x.policy(1, 4), -1);
        check.due("policy(-1, 0)", x.policy(-1, 0), -1);
        check.due("policy(12, 0)", x.policy(12, 0), -1);
        check.due("policy(32, 0)", x.policy(32, 0), -1);
        check.does(x, "...", 3);
        check.due("over", x.policy(0, 0), -1);
    }

    private static void wholePad() {
        AdmiralGuinea x = new AdmiralGuinea();
        StringBuilder text = new StringBuilder();
        for (int i = 0; i < 60; i++) text.append('.');
        check.does(x, text.toString(), 60);
        check.due("month", x.told(1), 60);
        check.badAct(x, text.toString(), 39, 7);
    }
}
