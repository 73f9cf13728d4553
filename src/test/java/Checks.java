import java.util.function.IntSupplier;
import java.util.function.IntUnaryOperator;

/** What the tests share: compare an answer with the one that is due, tell texts, end with the right code. */
final class Checks {
    static final int BAD = -1, STATE = -2, FULL = -3, NONE = -4;

    private static final int MOST_SECONDS = 200;

    private static final Doc DOC = new Doc();
    private static String sentence = "";
    private static int wrong = 0;
    private static int made = 0;

    private Checks() {
    }

    /** A call that does not end is a fault, too: without this no test would tell it. */
    static void begin(String test) {
        Thread guard = new Thread(() -> {
            try {
                Thread.sleep(1000L * MOST_SECONDS);
            } catch (InterruptedException e) {
                return;
            }
            System.out.println(test + ": a call did not end. " + sentence);
            Runtime.getRuntime().halt(1);
        });
        guard.setDaemon(true);
        guard.start();
    }

    /** The words of the document (of a promise; 0: its terms) that the checks behind this call are about. */
    static void of(int promise, String words) {
        sentence = (promise == Doc.TERMS ? "terms" : "promise " + promise) + ", \"" + words + "\": ";
        DOC.quote(promise, words);
    }

    static void tellUnquoted() {
        DOC.tellLeft();
    }

    static void due(String call, int got, int want) {
        made++;
        if (got != want) {
            wrong++;
            System.out.println(sentence + call + " answered " + got + ", due is " + want);
        }
    }

    static void yes(String what, boolean holds) {
        due(what, holds ? 1 : 0, 1);
    }

    /** The answers of asked(0), asked(1) .. as told, and NONE behind them. */
    static void row(String call, IntUnaryOperator asked, int... want) {
        answers(call, asked, want);
        due(call + " of " + want.length, asked.applyAsInt(want.length), NONE);
        due(call + " of the greatest int", asked.applyAsInt(Integer.MAX_VALUE), NONE);
    }

    /** The answers of asked(0), asked(1) .. as told. */
    static void answers(String call, IntUnaryOperator asked, int... want) {
        for (int i = 0; i < want.length; i++) {
            due(call + " of " + i, asked.applyAsInt(i), want[i]);
        }
    }

    static void bad(String call, IntSupplier... calls) {
        for (int i = 0; i < calls.length; i++) {
            due(call + ", wrong input " + i, calls[i].getAsInt(), BAD);
        }
    }

    /** BAD for each number beside from .. to: next to it and far off. */
    static void badBeside(String call, int from, int to, IntUnaryOperator asked) {
        int[] beside = {from - 1, to + 1, Integer.MIN_VALUE, Integer.MIN_VALUE + 1, -100, 1000, 1 << 16, 1 << 30,
            Integer.MAX_VALUE - 1, Integer.MAX_VALUE};
        for (int n : beside) {
            due(call + " by " + n, asked.applyAsInt(n), BAD);
        }
    }

    /** What item(h, i, 0), item(h, i, 1) .. answer. */
    static void item(WaryHouses x, int h, int i, int... want) {
        answers("item(" + h + ", " + i + ", what)", what -> x.item(h, i, what), want);
    }

    /** What log(i, 0), log(i, 1) .. answer. */
    static void log(WaryHouses x, int i, int... want) {
        answers("log(" + i + ", what)", what -> x.log(i, what), want);
    }

    /** What stranger(h, i, 0), stranger(h, i, 1) .. answer. */
    static void stranger(WaryHouses x, int h, int i, int... want) {
        answers("stranger(" + h + ", " + i + ", what)", what -> x.stranger(h, i, what), want);
    }

    static void feed(WaryHouses x, String text) {
        for (int i = 0; i < text.length(); i++) {
            due("feed of byte " + i + " of " + text, x.feed(text.charAt(i)), i + 1);
        }
    }

    static int tell(WaryHouses x, String text) {
        feed(x, text);
        return x.text();
    }

    /** A new object that has been told a text of so many lines. */
    static WaryHouses told(int lines, String text) {
        WaryHouses x = new WaryHouses();
        due("text() of " + text, tell(x, text), lines);
        due("fault() of " + text, x.fault(), 0);
        return x;
    }

    static void refused(String text, int fault, int place) {
        WaryHouses x = new WaryHouses();
        due("text() of " + text, tell(x, text), -10 - place);
        due("fault() of " + text, x.fault(), fault);
        due("bytes behind text() of " + text, x.count(1), 0);
        due("houses behind text() of " + text, x.rule(0), 0);
    }

    static void finish(String test) {
        System.out.println(test + ": " + made + " answers, " + wrong + " not as due");
        if (wrong != 0 || made == 0) {
            System.exit(1);
        }
    }
}
