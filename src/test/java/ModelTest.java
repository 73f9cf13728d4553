import java.util.ArrayList;
import java.util.List;
import java.util.Random;

/** Runs of calls by fixed seeds on the class and on the model: every answer must be the same. */
public final class ModelTest {
    private static final int RUNS = 12000;
    /** What an object is promised for. */
    private static final int MOST_CALLS = 512;
    private static final int MOST_CALLS_OF_TEXTS = 300;

    private final Random random;
    private final WaryHouses x = new WaryHouses();
    private final Model m = new Model();
    private final List<Call> calls = new ArrayList<>();
    private boolean same = true;

    private ModelTest(int seed) {
        random = new Random(seed);
    }

    public static void main(String[] args) {
        Checks.begin("ModelTest");
        long[] reached = new long[18];
        int[] faults = new int[8];
        for (int seed = 0; seed < RUNS; seed++) {
            ModelTest test = new ModelTest(seed);
            test.play(faults);
            Checks.yes("the answers by seed " + seed, test.same);
            if (!test.same) {
                break;
            }
            for (int what = 8; what <= 17; what++) {
                reached[what] += test.m.rule(what);
            }
        }
        for (int what = 8; what <= 17; what++) {
            Checks.yes("the runs come to what rule(" + what + ") counts", reached[what] > RUNS / 10);
        }
        for (int fault = 1; fault <= 7; fault++) {
            Checks.yes("the runs come to fault " + fault, faults[fault] > 10);
        }
        Checks.due("ways that the runs come to", Model.WAYS.size(), 8);
        System.out.println(Model.WAYS);
        Checks.finish("ModelTest");
    }

    private void play(int[] faults) {
        boolean taken = false;
        while (!taken && calls.size() < MOST_CALLS_OF_TEXTS) {
            String text = randomText();
            putText(random.nextInt(3) == 0 ? spoiled(text) : text);
            faults[m.fault()]++;
            taken = m.fault() == 0;
        }
        while (same && calls.size() < MOST_CALLS) {
            if (random.nextInt(3) == 0) {
                act();
            } else {
                ask();
            }
        }
    }

    /** Puts a call to both, if the object still serves for it. */
    private void put(String name, int... numbers) {
        if (!same || calls.size() >= MOST_CALLS) {
            return;
        }
        Call call = new Call(name, numbers);
        calls.add(call);
        int want = call.of(m);
        int got = call.of(x);
        if (got != want) {
            same = false;
            System.out.println(calls + " answered " + got + " at last, the model " + want);
        }
    }

    private void putText(String text) {
        for (int i = 0; i < text.length(); i++) {
            put("feed", text.charAt(i));
        }
        if (random.nextInt(10) == 0) {
            put("end", random.nextInt(text.length() + 3) - 1);
        }
        put("text");
        put("fault");
    }

    private void act() {
        int n = random.nextInt(12) - 1;
        switch (random.nextInt(20)) {
            case 0, 1, 2, 3, 4 -> put("send", inside(5), inside(32), inside(32));
            case 5, 6 -> put("tick", 1);
            case 7 -> put("tick", n * 2);
            case 8 -> put("run", n * 6);
            case 9, 10 -> put("set", inside(5), n % 3);
            case 11, 12, 13 -> put("draw", random.nextInt(), n);
            case 14 -> put("keep", n % 3);
            case 15 -> put("back", n % 3);
            case 16 -> put("sheet", random.nextInt(5), random.nextInt(5) / 2, n * 4);
            case 17 -> lay();
            case 18 -> put("post", random.nextInt(5), random.nextInt(5) / 2, random.nextInt(6) - 1, n % 8);
            default -> sendMany();
        }
    }

    private void lay() {
        int k = random.nextInt(5);
        int first = random.nextInt(5) - 1;
        for (int i = first; i < first + 9; i++) {
            int v = random.nextInt(40) == 0 ? random.nextInt(600) - 300 : random.nextInt(i % 3 == 0 ? 3 : 32);
            put("lay", k, i, v);
        }
    }

    /** Of few sorts, so that what is rare comes about: doubles, strangers that come again, no room. */
    private void sendMany() {
        int h = inside(5);
        int from = random.nextInt(32);
        int to = random.nextInt(16);
        int most = random.nextInt(8) == 0 ? 60 : 9;
        for (int i = random.nextInt(most); i >= 0; i--) {
            put("send", h, from, to + random.nextInt(2));
        }
    }

    private void ask() {
        int h = inside(5);
        switch (random.nextInt(14)) {
            case 0, 1 -> put("rule", inside(18));
            case 2 -> put("house", h, inside(6));
            case 3 -> put("receiver", inside(4), inside(3), inside(3));
            case 4 -> put("address", inside(32), inside(4));
            case 5 -> put("leads", inside(32), inside(4));
            case 6 -> put("reaches", inside(32), inside(4));
            case 7, 8 -> put("item", h, inside(Math.max(1, m.house(h, 2))), inside(7));
            case 9 -> put("asks", h, inside(4), inside(3));
            case 10, 11 -> put("stranger", h, inside(Math.max(1, m.house(h, 3))), inside(5));
            case 12 -> put("log", random.nextInt(63) - 1, inside(5));
            default -> put("count", random.nextInt(5) - 1);
        }
    }

    /** Mostly a number that there may be, now and then one beside. */
    private int inside(int n) {
        return random.nextInt(30) == 0 ? random.nextInt(2 * n) - n / 2 : random.nextInt(n);
    }

    private String randomText() {
        StringBuilder text = new StringBuilder();
        int houses = 1 + random.nextInt(5);
        for (int h = 0; h < houses; h++) {
            text.append(random.nextInt(3) == 0 ? "house wary;" : "house;");
        }
        int domains = 1 + random.nextInt(4);
        for (int d = 0; d < domains; d++) {
            text.append("domain");
            int receivers = random.nextInt(8) == 0 ? 0 : Math.min(houses, 1 + random.nextInt(3));
            int h = random.nextInt(houses);
            for (int i = 0; i < receivers; i++) {
                text.append(' ').append(h).append(' ').append(random.nextInt(random.nextBoolean() ? 3 : 10));
                h = (h + 1) % houses;
            }
            text.append(';');
        }
        int names = 1 + random.nextInt(7);
        boolean[] used = new boolean[32];
        for (int i = 0; i < 20; i++) {
            String line = randomAddress(used, domains, names);
            if (text.length() + line.length() <= 200) {
                text.append(line);
            }
        }
        return text.toString();
    }

    private String randomAddress(boolean[] used, int domains, int names) {
        int a = 8 * random.nextInt(random.nextInt(60) == 0 ? 4 : domains) + random.nextInt(names);
        if (used[a]) {
            return "";
        }
        used[a] = true;
        String named = " " + a / 8 + " " + a % 8;
        int kind = random.nextInt(4);
        if (kind < 2) {
            return "box" + named + ";";
        }
        if (kind == 2) {
            return "alias" + named + randomLead(domains, names) + ";";
        }
        StringBuilder list = new StringBuilder("list" + named);
        for (int i = random.nextInt(4); i >= 0; i--) {
            String lead = randomLead(domains, names);
            if (list.indexOf(lead + " ", 8) < 0 && !list.substring(8).endsWith(lead)) {
                list.append(lead);
            }
        }
        return list + (list.length() == 8 ? " 0 0;" : ";");
    }

    private String randomLead(int domains, int names) {
        int d = random.nextInt(12) == 0 ? random.nextInt(4) : random.nextInt(domains);
        int n = random.nextInt(12) == 0 ? random.nextInt(8) : random.nextInt(names);
        return " " + d + " " + n;
    }

    /** Some change of a text: a sign for another, one more, one less, a part twice, lines in another order. */
    private String spoiled(String text) {
        StringBuilder s = new StringBuilder(text);
        int changes = 1 + random.nextInt(2);
        for (int i = 0; i < changes && s.length() > 1; i++) {
            int at = random.nextInt(s.length());
            char c = "  ;;.0123456789ahwz\t".charAt(random.nextInt(20));
            switch (random.nextInt(6)) {
                case 0 -> s.setCharAt(at, c);
                case 1, 2 -> s.insert(at, c);
                case 3 -> s.deleteCharAt(at);
                case 4 -> {
                    int line = s.indexOf(";", at);
                    s.append(s.substring(0, Math.max(0, line) + 1));
                }
                default -> {
                    int line = s.indexOf(";") + 1;
                    String first = s.substring(0, line);
                    s.delete(0, line).append(random.nextBoolean() ? first : "");
                }
            }
        }
        return s.length() > 202 ? s.substring(0, 202) : s.toString();
    }
}
