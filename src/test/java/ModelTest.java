import java.util.Random;

/** Runs of calls by fixed seeds on the class and on the model: every answer must be the same. */
public final class ModelTest {
    private static final int RUNS = 3000;
    private static final int CALLS = 120;

    private final Random random;
    private final WaryHouses x = new WaryHouses();
    private final Model m = new Model();
    private final StringBuilder told = new StringBuilder();

    private ModelTest(int seed) {
        random = new Random(seed);
    }

    public static void main(String[] args) {
        long[] reached = new long[18];
        int[] faults = new int[8];
        for (int seed = 0; seed < RUNS; seed++) {
            ModelTest test = new ModelTest(seed);
            if (!test.play(faults)) {
                System.out.println("by seed " + seed + ": " + test.told);
                System.exit(1);
            }
            for (int what = 8; what <= 17; what++) {
                reached[what] += test.m.rule(what);
            }
        }
        for (int what = 8; what <= 17; what++) {
            Checks.yes("the runs come to what rule(" + what + ") counts", reached[what] > RUNS / 10);
        }
        for (int fault = 1; fault <= 7; fault++) {
            Checks.yes("the runs come to fault " + fault, faults[fault] > 10);
        }
        Checks.due("ways that the runs come to", Model.WAYS.size(), 8);
        System.out.println(Model.WAYS);
        Checks.finish("ModelTest");
    }

    private boolean play(int[] faults) {
        boolean taken = false;
        for (int i = 0; i < 6 && !taken; i++) {
            String text = randomText();
            if (random.nextInt(3) == 0) {
                text = spoiled(text);
            }
            told.append("\n\"").append(text).append('"');
            if (!sameText(text)) {
                return false;
            }
            faults[m.fault()]++;
            taken = m.fault() == 0;
        }
        for (int i = 0; i < CALLS; i++) {
            if (!sameCall() || i % 20 == 0 && !sameState()) {
                return false;
            }
        }
        return sameState();
    }

    private boolean same(String call, int got, int want) {
        if (got != want) {
            told.append('\n').append(call).append(" answered ").append(got).append(", the model ").append(want);
        }
        return got == want;
    }

    private boolean sameText(String text) {
        for (int i = 0; i < text.length(); i++) {
            int c = text.charAt(i);
            if (!same("feed", x.feed(c), m.feed(c))) {
                return false;
            }
        }
        if (random.nextInt(10) == 0) {
            int n = random.nextInt(text.length() + 3) - 1;
            if (!same("end(" + n + ")", x.end(n), m.end(n))) {
                return false;
            }
        }
        return same("text()", x.text(), m.text()) && same("fault()", x.fault(), m.fault());
    }

    private boolean sameCall() {
        int h = inside(5);
        int a = inside(32);
        int b = inside(32);
        int n = random.nextInt(12) - 1;
        String call = "(" + h + ", " + a + ", " + b + ", " + n + ")";
        int kind = random.nextInt(20);
        told.append('\n').append(kind).append(call);
        switch (kind) {
            case 0, 1, 2, 3, 4:
                return same("send" + call, x.send(h, a, b), m.send(h, a, b));
            case 5, 6:
                return same("tick" + call, x.tick(1), m.tick(1));
            case 7:
                return same("tick" + call, x.tick(n * 2), m.tick(n * 2));
            case 8:
                return same("run" + call, x.run(n * 6), m.run(n * 6));
            case 9, 10:
                return same("set" + call, x.set(h, n % 3), m.set(h, n % 3));
            case 11, 12, 13:
                int seed = random.nextInt();
                return same("draw" + call + seed, x.draw(seed, n), m.draw(seed, n));
            case 14:
                return same("keep" + call, x.keep(n % 3), m.keep(n % 3));
            case 15:
                return same("back" + call, x.back(n % 3), m.back(n % 3));
            case 16:
                int k = random.nextInt(5);
                int lane = random.nextInt(5) / 2;
                return same("sheet" + call, x.sheet(k, lane, n * 4), m.sheet(k, lane, n * 4));
            case 17:
                return sameLay();
            case 18:
                int of = random.nextInt(5);
                int type = random.nextInt(5) / 2;
                int first = random.nextInt(6) - 1;
                return same("post" + call, x.post(of, type, first, n % 8), m.post(of, type, first, n % 8));
            default:
                return same("count" + call, x.count(n % 4), m.count(n % 4));
        }
    }

    private boolean sameLay() {
        int k = random.nextInt(5);
        for (int i = -1; i <= 40; i++) {
            int v = random.nextInt(40) == 0 ? random.nextInt(600) - 300 : random.nextInt(i % 3 == 0 ? 3 : 32);
            if (!same("lay(" + k + ", " + i + ", " + v + ")", x.lay(k, i, v), m.lay(k, i, v))) {
                return false;
            }
        }
        return true;
    }

    /** Mostly a number that there may be, now and then one beside. */
    private int inside(int n) {
        return random.nextInt(30) == 0 ? random.nextInt(2 * n) - n / 2 : random.nextInt(n);
    }

    private boolean sameState() {
        boolean same = true;
        for (int what = -1; what <= 18; what++) {
            same &= same("rule(" + what + ")", x.rule(what), m.rule(what));
        }
        for (int a = -1; a <= 32; a++) {
            for (int i = -1; i <= 4; i++) {
                same &= same("address(" + a + ", " + i + ")", x.address(a, i), m.address(a, i));
                same &= same("leads(" + a + ", " + i + ")", x.leads(a, i), m.leads(a, i));
                same &= same("reaches(" + a + ", " + i + ")", x.reaches(a, i), m.reaches(a, i));
            }
        }
        for (int i = -1; i <= 60; i++) {
            for (int what = -1; what <= 5; what++) {
                same &= same("log(" + i + ", " + what + ")", x.log(i, what), m.log(i, what));
            }
        }
        for (int d = -1; d <= 4; d++) {
            for (int i = -1; i <= 3; i++) {
                for (int what = -1; what <= 3; what++) {
                    same &= same("receiver", x.receiver(d, i, what), m.receiver(d, i, what));
                }
            }
        }
        return same && sameHouses();
    }

    private boolean sameHouses() {
        boolean same = true;
        for (int h = -1; h <= 5; h++) {
            for (int what = -1; what <= 7; what++) {
                same &= same("house(" + h + ", " + what + ")", x.house(h, what), m.house(h, what));
                for (int i = -1; i <= Math.max(8, m.house(h, 2)); i++) {
                    String call = "(" + h + ", " + i + ", " + what + ")";
                    same &= same("item" + call, x.item(h, i, what), m.item(h, i, what));
                    same &= same("stranger" + call, x.stranger(h, i, what), m.stranger(h, i, what));
                }
                for (int i = -1; i <= 3; i++) {
                    int d = what;
                    same &= same("asks(" + h + ", " + d + ", " + i + ")", x.asks(h, d, i), m.asks(h, d, i));
                }
            }
        }
        return same;
    }

    private String randomText() {
        StringBuilder text = new StringBuilder();
        int houses = 1 + random.nextInt(5);
        for (int h = 0; h < houses; h++) {
            text.append(random.nextInt(3) == 0 ? "house wary;" : "house;");
        }
        int domains = 1 + random.nextInt(4);
        for (int d = 0; d < domains; d++) {
            text.append("domain");
            int receivers = random.nextInt(8) == 0 ? 0 : Math.min(houses, 1 + random.nextInt(3));
            int h = random.nextInt(houses);
            for (int i = 0; i < receivers; i++) {
                text.append(' ').append(h).append(' ').append(random.nextInt(random.nextBoolean() ? 3 : 10));
                h = (h + 1) % houses;
            }
            text.append(';');
        }
        int names = 1 + random.nextInt(7);
        boolean[] used = new boolean[32];
        for (int i = 0; i < 20; i++) {
            String line = randomAddress(used, domains, names);
            if (text.length() + line.length() <= 200) {
                text.append(line);
            }
        }
        return text.toString();
    }

    private String randomAddress(boolean[] used, int domains, int names) {
        int a = 8 * random.nextInt(random.nextInt(60) == 0 ? 4 : domains) + random.nextInt(names);
        if (used[a]) {
            return "";
        }
        used[a] = true;
        String named = " " + a / 8 + " " + a % 8;
        int kind = random.nextInt(4);
        if (kind < 2) {
            return "box" + named + ";";
        }
        if (kind == 2) {
            return "alias" + named + randomLead(domains, names) + ";";
        }
        StringBuilder list = new StringBuilder("list" + named);
        for (int i = random.nextInt(4); i >= 0; i--) {
            String lead = randomLead(domains, names);
            if (list.indexOf(lead + " ", 8) < 0 && !list.substring(8).endsWith(lead)) {
                list.append(lead);
            }
        }
        return list + (list.length() == 8 ? " 0 0;" : ";");
    }

    private String randomLead(int domains, int names) {
        int d = random.nextInt(12) == 0 ? random.nextInt(4) : random.nextInt(domains);
        int n = random.nextInt(12) == 0 ? random.nextInt(8) : random.nextInt(names);
        return " " + d + " " + n;
    }

    /** Some change of a text: a sign for another, one more, one less, a part twice, lines in another order. */
    private String spoiled(String text) {
        StringBuilder s = new StringBuilder(text);
        int changes = 1 + random.nextInt(2);
        for (int i = 0; i < changes && s.length() > 1; i++) {
            int at = random.nextInt(s.length());
            char c = "  ;;.0123456789ahwz\t".charAt(random.nextInt(20));
            switch (random.nextInt(6)) {
                case 0 -> s.setCharAt(at, c);
                case 1, 2 -> s.insert(at, c);
                case 3 -> s.deleteCharAt(at);
                case 4 -> {
                    int line = s.indexOf(";", at);
                    s.append(s.substring(0, Math.max(0, line) + 1));
                }
                default -> {
                    int line = s.indexOf(";") + 1;
                    String first = s.substring(0, line);
                    s.delete(0, line).append(random.nextBoolean() ? first : "");
                }
            }
        }
        return s.length() > 202 ? s.substring(0, 202) : s.toString();
    }
}
