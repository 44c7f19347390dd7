/** Counts answers that are not as due; a test ends with end(). */
final class Check {
    private final String name;
    private int wrong = 0;
    private int calls = 0;

    Check() {
        this("");
    }

    /** The name is told ahead of each answer that is not as due. */
    Check(String name) {
        this.name = name;
    }

    void due(String call, long got, long want) {
        calls++;
        if (got != want) {
            wrong++;
            if (wrong <= 50) {
                System.out.println((name.isEmpty() ? "" : name + ": ") + call + " answered " + got + ", due is " + want);
            }
        }
    }

    void isTrue(String what, boolean holds) {
        due(what, holds ? 1 : 0, 1);
    }

    /** Puts a text on an empty pad, sign by sign. */
    void pad(AdmiralGuinea x, String text) {
        x.wipe();
        for (int i = 0; i < text.length(); i++) {
            due("say " + text.charAt(i) + " of " + text, x.say(text.charAt(i)), i + 1);
        }
    }

    /** Puts a text on the pad and does it. */
    void does(AdmiralGuinea x, String text, int acts) {
        pad(x, text);
        due("done of " + text, x.done(), acts);
    }

    /** So many months come; a pad has room for 60 of them. */
    void months(AdmiralGuinea x, int n) {
        for (int left = n; left > 0; left -= 60) {
            int some = Math.min(60, left);
            does(x, ".".repeat(some), some);
        }
    }

    /** The text can be, all of it; nothing is done. */
    void canBe(AdmiralGuinea x, String text) {
        pad(x, text);
        due("judge(0) of " + text, x.judge(0), AdmiralGuinea.NONE);
        due("judge(1) of " + text, x.judge(1), AdmiralGuinea.NONE);
        x.wipe();
    }

    /** The text can not be: the act and why; nothing changes by done. */
    void badAct(AdmiralGuinea x, String text, int act, int why) {
        pad(x, text);
        due("fault of " + text, x.fault(), AdmiralGuinea.NONE);
        due("judge(0) of " + text, x.judge(0), act);
        due("judge(1) of " + text, x.judge(1), why);
        due("done of " + text, x.done(), AdmiralGuinea.NO);
        due("behind(0) of " + text, x.behind(0), AdmiralGuinea.NO);
        due("signs are left of " + text, x.told(0), text.length());
        x.wipe();
    }

    /** A fraction: upper and lower number. */
    void fraction(String call, long gotUpper, long gotLower, long upper, long lower) {
        due(call + " upper", gotUpper, upper);
        due(call + " lower", gotLower, lower);
    }

    int answers() {
        return calls;
    }

    int wrongOnes() {
        return wrong;
    }

    void end() {
        System.out.println(calls + " answers looked at, " + wrong + " wrong");
        if (wrong != 0) {
            System.exit(1);
        }
    }
}
