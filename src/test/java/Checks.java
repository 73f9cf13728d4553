import java.util.function.IntSupplier;

/** What the tests share: compare an answer with the one that is due, tell texts, end with the right code. */
final class Checks {
    static final int BAD = -1, STATE = -2, FULL = -3, NONE = -4;

    private static int wrong = 0;
    private static int made = 0;

    private Checks() {
    }

    static void due(String call, int got, int want) {
        made++;
        if (got != want) {
            wrong++;
            System.out.println(call + " answered " + got + ", due is " + want);
        }
    }

    static void yes(String what, boolean holds) {
        due(what, holds ? 1 : 0, 1);
    }

    /** The answers of asked(0), asked(1) .. as told, and NONE behind them. */
    static void row(String call, java.util.function.IntUnaryOperator asked, int... want) {
        for (int i = 0; i < want.length; i++) {
            due(call + " of " + i, asked.applyAsInt(i), want[i]);
        }
        due(call + " of " + want.length, asked.applyAsInt(want.length), NONE);
        due(call + " of the greatest int", asked.applyAsInt(Integer.MAX_VALUE), NONE);
    }

    static void bad(String call, IntSupplier... calls) {
        for (int i = 0; i < calls.length; i++) {
            due(call + ", wrong input " + i, calls[i].getAsInt(), BAD);
        }
    }

    static void feed(WaryHouses x, String text) {
        for (int i = 0; i < text.length(); i++) {
            due("feed of byte " + i + " of " + text, x.feed(text.charAt(i)), i + 1);
        }
    }

    static int tell(WaryHouses x, String text) {
        feed(x, text);
        return x.text();
    }

    /** A new object that has been told a text of so many lines. */
    static WaryHouses told(int lines, String text) {
        WaryHouses x = new WaryHouses();
        due("text() of " + text, tell(x, text), lines);
        due("fault() of " + text, x.fault(), 0);
        return x;
    }

    static void refused(String text, int fault, int place) {
        WaryHouses x = new WaryHouses();
        due("text() of " + text, tell(x, text), -10 - place);
        due("fault() of " + text, x.fault(), fault);
        due("bytes behind text() of " + text, x.count(1), 0);
        due("houses behind text() of " + text, x.rule(0), 0);
    }

    static void finish(String test) {
        System.out.println(test + ": " + made + " answers, " + wrong + " not as due");
        if (wrong != 0 || made == 0) {
            System.exit(1);
        }
    }
}
