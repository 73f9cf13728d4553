import java.util.ArrayList;
import java.util.List;
import java.util.function.Supplier;
import java.util.function.ToIntFunction;

/**
 * All that can be asked of an object. It is promised for 512 calls alone, so each part of the questions is put to an
 * object of its own, made by the same calls.
 */
final class Snapshot {
    private static final int PER_OBJECT = 120;
    private static final int MOST_ITEMS_ASKED = 20;

    private static final List<String> NAMES = new ArrayList<>();
    private static final List<ToIntFunction<WaryHouses>> QUESTIONS = new ArrayList<>();
    /** Those that change what they ask, so that each needs an object for itself. */
    private static final List<ToIntFunction<WaryHouses>> PROBES = List.of(
            x -> x.text(),
            x -> x.text() * 1000 + x.rule(0) * 100 + x.rule(1) * 10 + x.rule(2),
            x -> x.back(0),
            x -> x.back(1),
            x -> x.back(0) * 1000 + x.rule(5) * 100 + x.rule(6) * 10 + x.rule(10),
            x -> x.back(1) * 1000 + x.rule(5) * 100 + x.rule(6) * 10 + x.rule(10));

    static {
        addPlan();
        addMail();
    }

    private Snapshot() {
    }

    private static void add(String name, ToIntFunction<WaryHouses> question) {
        NAMES.add(name);
        QUESTIONS.add(question);
    }

    private static void addPlan() {
        add("fault()", WaryHouses::fault);
        for (int what = 0; what <= 17; what++) {
            int w = what;
            add("rule(" + w + ")", x -> x.rule(w));
        }
        for (int d = 0; d < 4; d++) {
            for (int i = 0; i < 3; i++) {
                for (int what = 0; what <= 2; what++) {
                    int[] n = {d, i, what};
                    add("receiver" + List.of(d, i, what), x -> x.receiver(n[0], n[1], n[2]));
                }
            }
        }
        for (int a = 0; a < 32; a++) {
            for (int i = 0; i < 4; i++) {
                int[] n = {a, i};
                add("address" + List.of(a, i), x -> x.address(n[0], n[1]));
                add("leads" + List.of(a, i), x -> x.leads(n[0], n[1]));
                add("reaches" + List.of(a, i), x -> x.reaches(n[0], n[1]));
            }
        }
    }

    private static void addMail() {
        for (int what = 0; what <= 2; what++) {
            int w = what;
            add("count(" + w + ")", x -> x.count(w));
        }
        for (int h = 0; h < 5; h++) {
            for (int what = 0; what <= 5; what++) {
                int[] n = {h, what};
                add("house" + List.of(h, what), x -> x.house(n[0], n[1]));
            }
            addRows(h, "item", MOST_ITEMS_ASKED, 7, (x, n) -> x.item(n[0], n[1], n[2]));
            addRows(h, "stranger", 8, 5, (x, n) -> x.stranger(n[0], n[1], n[2]));
            addRows(h, "asks", 4, 3, (x, n) -> x.asks(n[0], n[1], n[2]));
        }
        for (int i = 0; i < 60; i++) {
            for (int what = 0; what <= 4; what++) {
                int[] n = {i, what};
                add("log" + List.of(i, what), x -> x.log(n[0], n[1]));
            }
        }
    }

    private interface Asked {
        int of(WaryHouses x, int[] numbers);
    }

    private static void addRows(int h, String name, int rows, int columns, Asked asked) {
        for (int i = 0; i < rows; i++) {
            for (int what = 0; what < columns; what++) {
                int[] n = {h, i, what};
                add(name + List.of(h, i, what), x -> asked.of(x, n));
            }
        }
    }

    static int[] of(Supplier<WaryHouses> maker) {
        int[] answers = new int[QUESTIONS.size() + PROBES.size()];
        WaryHouses x = null;
        for (int i = 0; i < QUESTIONS.size(); i++) {
            if (i % PER_OBJECT == 0) {
                x = maker.get();
            }
            answers[i] = QUESTIONS.get(i).applyAsInt(x);
        }
        for (int i = 0; i < PROBES.size(); i++) {
            answers[QUESTIONS.size() + i] = PROBES.get(i).applyAsInt(maker.get());
        }
        return answers;
    }

    /** Whether two ways of making an object lead to the same answers. */
    static void same(String when, int[] want, int[] got) {
        for (int i = 0; i < want.length; i++) {
            Checks.due((i < NAMES.size() ? NAMES.get(i) : "probe " + (i - NAMES.size())) + " " + when, got[i], want[i]);
        }
    }
}
