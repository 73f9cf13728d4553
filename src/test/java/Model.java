import java.util.ArrayList;
import java.util.Arrays;
import java.util.Collections;
import java.util.Comparator;
import java.util.LinkedHashMap;
import java.util.List;
import java.util.Map;
import java.util.TreeSet;

/** The document once more, written for plainness with the library's rows and maps: what ModelTest compares with. */
final class Model {
    private static final int BAD = -1, STATE = -2, FULL = -3, NONE = -4;

    /** A refused text. */
    private static final class Fault extends RuntimeException {
        private static final long serialVersionUID = 1L;
        final int number;
        final int place;

        Fault(int number, int place) {
            this.number = number;
            this.place = place;
        }
    }

    private record Token(char kind, String word, int place) {
    }

    private record Receiver(int house, int preference) {
    }

    private record Told(int kind, List<Integer> leads) {
    }

    private record Letter(int number, Integer from) {
    }

    private record Item(Letter letter, int to, int tries, int hops, int due, List<Integer> marks) {
    }

    private record Stranger(int who, Integer from, int to, int when, boolean passed) {
        boolean is(int asks, Integer itsFrom, int itsTo) {
            return who == asks && to == itsTo && (from == null ? itsFrom == null : from.equals(itsFrom));
        }
    }

    private record Deed(int what, int clock, int letter, int house, int to) {
    }

    /** What a text tells. */
    private static final class Plan {
        final List<Boolean> wary = new ArrayList<>();
        final List<List<Receiver>> domains = new ArrayList<>();
        final Map<Integer, Told> addresses = new LinkedHashMap<>();
        int lines;
    }

    /** What comes of ANEW. Rows in it hold what never changes, so a copy of the rows is an image. */
    private static final class World {
        int clock;
        int letters;
        int ofLists;
        int[] counts = new int[9];
        List<List<Item>> queues = new ArrayList<>();
        List<Item> behindTurn = new ArrayList<>();
        List<Boolean> up = new ArrayList<>();
        List<List<Stranger>> strangers = new ArrayList<>();
        Map<Integer, List<Letter>> given = new LinkedHashMap<>();
        List<Deed> log = new ArrayList<>();

        World(int houses) {
            for (int h = 0; h < houses; h++) {
                queues.add(new ArrayList<>());
                up.add(true);
                strangers.add(new ArrayList<>());
            }
        }

        World copy() {
            World c = new World(0);
            c.clock = clock;
            c.letters = letters;
            c.ofLists = ofLists;
            c.counts = counts.clone();
            queues.forEach(q -> c.queues.add(new ArrayList<>(q)));
            c.up.addAll(up);
            strangers.forEach(s -> c.strangers.add(new ArrayList<>(s)));
            given.forEach((a, row) -> c.given.put(a, new ArrayList<>(row)));
            c.log.addAll(log);
            return c;
        }

        int items() {
            return queues.stream().mapToInt(List::size).sum() + behindTurn.size();
        }
    }

    /** How often the rarer ways of the document were gone, so that a test can tell that its runs come there. */
    static final Map<String, Integer> WAYS = new LinkedHashMap<>();

    private static void way(String name) {
        WAYS.merge(name, 1, Integer::sum);
    }

    private String tape = "";
    private int latestFault;
    private Plan plan = new Plan();
    private World world = new World(0);
    private final World[] images = new World[2];
    private final long[][] sheets = new long[4][];
    private final int[] lanes = new int[4];

    // ---- the text

    int feed(int c) {
        if (c < 0 || c > 127) {
            return BAD;
        }
        if (tape.length() == 200) {
            return FULL;
        }
        tape += (char) c;
        return tape.length();
    }

    int end(int n) {
        if (n < 0 || n > tape.length()) {
            return BAD;
        }
        int had = tape.length();
        tape = tape.substring(0, n);
        return had;
    }

    int text() {
        String text = tape;
        tape = "";
        try {
            Plan read = new Parser(text).parse();
            plan = read;
            world = new World(plan.wary.size());
            Arrays.fill(images, null);
            latestFault = 0;
            return plan.lines;
        } catch (Fault f) {
            latestFault = f.number;
            return -10 - f.place;
        }
    }

    private static final class Parser {
        final String text;
        final Plan plan = new Plan();
        int at;
        Token now;

        Parser(String text) {
            this.text = text;
        }

        Plan parse() {
            for (next(); now.kind != 'E'; next()) {
                switch (now.kind == 'N' ? now.word : "") {
                    case "house" -> house();
                    case "domain" -> domain();
                    case "box" -> plan.addresses.put(told(), new Told(1, List.of()));
                    case "alias" -> plan.addresses.put(told(), new Told(2, List.of(ahead())));
                    case "list" -> list();
                    default -> throw new Fault(2, now.place);
                }
                if (now.kind != ';') {
                    next();
                }
                if (now.kind != ';') {
                    throw new Fault(2, now.place);
                }
                plan.lines++;
            }
            for (List<Receiver> d : plan.domains) {
                for (Receiver r : d) {
                    if (r.house >= plan.wary.size()) {
                        throw new Fault(6, text.length());
                    }
                }
            }
            for (int a : plan.addresses.keySet()) {
                if (a / 8 >= plan.domains.size()) {
                    throw new Fault(7, text.length());
                }
            }
            return plan;
        }

        void next() {
            while (at < text.length() && text.charAt(at) == ' ') {
                at++;
            }
            int first = at;
            if (at == text.length()) {
                now = new Token('E', "", first);
                return;
            }
            String rest = text.substring(at);
            String word = rest.replaceFirst("(?s)^([a-z]+|[0-9]+|;|).*$", "$1");
            if (word.isEmpty() || Character.isDigit(word.charAt(0)) && word.length() > 2) {
                throw new Fault(1, first);
            }
            at += word.length();
            char c = word.charAt(0);
            now = new Token(c == ';' ? ';' : Character.isDigit(c) ? '0' : 'N', word, first);
        }

        int number(int most) {
            if (now.kind != '0') {
                throw new Fault(2, now.place);
            }
            if (Integer.parseInt(now.word) > most) {
                throw new Fault(3, now.place);
            }
            return Integer.parseInt(now.word);
        }

        int hereAddress() {
            int d = number(3);
            next();
            return 8 * d + number(7);
        }

        int ahead() {
            next();
            return hereAddress();
        }

        int told() {
            int a = ahead();
            if (plan.addresses.containsKey(a)) {
                throw new Fault(4, now.place);
            }
            return a;
        }

        void house() {
            if (plan.wary.size() == 5) {
                throw new Fault(5, now.place);
            }
            next();
            boolean isWary = now.kind == 'N' && now.word.equals("wary");
            plan.wary.add(isWary);
            if (!isWary && now.kind != ';') {
                throw new Fault(2, now.place);
            }
        }

        void domain() {
            if (plan.domains.size() == 4) {
                throw new Fault(5, now.place);
            }
            List<Receiver> d = new ArrayList<>();
            plan.domains.add(d);
            for (next(); now.kind != ';'; next()) {
                if (d.size() == 3) {
                    throw new Fault(2, now.place);
                }
                int h = number(4);
                if (d.stream().anyMatch(r -> r.house == h)) {
                    throw new Fault(4, now.place);
                }
                next();
                d.add(new Receiver(h, number(9)));
            }
        }

        void list() {
            int a = told();
            List<Integer> of = new ArrayList<>();
            plan.addresses.put(a, new Told(3, of));
            for (next(); now.kind != ';'; next()) {
                if (of.size() == 4) {
                    throw new Fault(2, now.place);
                }
                int b = hereAddress();
                if (of.contains(b)) {
                    throw new Fault(4, now.place);
                }
                of.add(b);
            }
            if (of.isEmpty()) {
                throw new Fault(2, now.place);
            }
        }
    }

    int fault() {
        return latestFault;
    }

    private int kindsOf(int kind) {
        return (int) plan.addresses.values().stream().filter(t -> t.kind == kind).count();
    }

    int rule(int what) {
        if (what < 0 || what > 17) {
            return BAD;
        }
        int[] first = {plan.wary.size(), plan.domains.size(), kindsOf(1), kindsOf(2), kindsOf(3), world.clock,
            world.letters, world.items()};
        return what < 8 ? first[what] : what == 17 ? world.ofLists : world.counts[what - 8];
    }

    private boolean noHouse(int h) {
        return h < 0 || h >= plan.wary.size();
    }

    private boolean noDomain(int d) {
        return d < 0 || d >= plan.domains.size();
    }

    private static boolean noAddress(int a) {
        return a < 0 || a > 31;
    }

    private int leastPreference(int d) {
        return plan.domains.get(d).stream().mapToInt(Receiver::preference).min().orElse(NONE);
    }

    private boolean last(int h, int d) {
        int least = leastPreference(d);
        return plan.domains.get(d).stream().anyMatch(r -> r.house == h && r.preference == least);
    }

    int house(int h, int what) {
        if (noHouse(h) || what < 0 || what > 5) {
            return BAD;
        }
        List<Stranger> s = world.strangers.get(h);
        int lasts = 0;
        for (int d = 0; d < plan.domains.size(); d++) {
            lasts += last(h, d) ? 1 : 0;
        }
        int[] answers = {plan.wary.get(h) ? 1 : 0, world.up.get(h) ? 1 : 0, world.queues.get(h).size(), s.size(),
            (int) s.stream().filter(Stranger::passed).count(), lasts};
        return answers[what];
    }

    int receiver(int d, int i, int what) {
        if (noDomain(d) || i < 0 || what < 0 || what > 2) {
            return BAD;
        }
        if (i >= plan.domains.get(d).size()) {
            return NONE;
        }
        Receiver r = plan.domains.get(d).get(i);
        return new int[] {r.house, r.preference, last(r.house, d) ? 1 : 0}[what];
    }

    private int kind(int a) {
        return plan.addresses.containsKey(a) ? plan.addresses.get(a).kind : 0;
    }

    private List<Integer> leadsOf(int a) {
        return plan.addresses.containsKey(a) ? plan.addresses.get(a).leads : List.of();
    }

    int address(int a, int what) {
        if (noAddress(a) || what < 0 || what > 3) {
            return BAD;
        }
        if (what == 0) {
            return kind(a);
        }
        if (kind(a) == 3) {
            return what == 1 ? leadsOf(a).size() : NONE;
        }
        if (kind(a) != 1) {
            return NONE;
        }
        List<Letter> row = world.given.getOrDefault(a, List.of());
        if (what == 1) {
            return row.size();
        }
        if (row.isEmpty()) {
            return NONE;
        }
        Letter latest = row.get(row.size() - 1);
        return what == 2 ? latest.number : latest.from == null ? NONE : latest.from;
    }

    int leads(int a, int i) {
        if (noAddress(a) || i < 0) {
            return BAD;
        }
        return i < leadsOf(a).size() ? leadsOf(a).get(i) : NONE;
    }

    private void walk(int a, TreeSet<Integer> seen) {
        if (seen.add(a)) {
            leadsOf(a).forEach(b -> walk(b, seen));
        }
    }

    int reaches(int a, int i) {
        if (noAddress(a) || i < 0) {
            return BAD;
        }
        TreeSet<Integer> seen = new TreeSet<>();
        walk(a, seen);
        return seen.stream().filter(b -> kind(b) == 1).skip(i).findFirst().orElse(NONE);
    }

    // ---- letters on their way

    int send(int h, int from, int to) {
        if (noHouse(h) || noAddress(from) || noAddress(to)) {
            return BAD;
        }
        if (world.items() == 60) {
            return FULL;
        }
        Item item = new Item(new Letter(world.letters++, from), to, 0, 0, world.clock + 1, List.of());
        world.queues.get(h).add(item);
        tell(0, item, h);
        return item.letter.number;
    }

    private void tell(int what, Item item, int h) {
        world.counts[what]++;
        world.log.add(new Deed(what, world.clock, item.letter.number, h, item.to));
    }

    int tick(int n) {
        if (n < 1 || n > 20) {
            return BAD;
        }
        int before = world.counts[2];
        for (int i = 0; i < n; i++) {
            oneTick();
        }
        return world.counts[2] - before;
    }

    int run(int n) {
        if (n < 1 || n > 60) {
            return BAD;
        }
        int ticks = 0;
        for (; ticks < n && world.items() > 0; ticks++) {
            oneTick();
        }
        return ticks;
    }

    private void oneTick() {
        world.clock++;
        for (int h = 0; h < plan.wary.size(); h++) {
            if (!world.up.get(h)) {
                continue;
            }
            List<Item> queue = world.queues.get(h);
            for (int i = 0; i < queue.size();) {
                Item item = queue.get(i);
                if (item.due > world.clock) {
                    i++;
                    continue;
                }
                Item stays = handled(h, item);
                if (stays == null) {
                    queue.remove(i);
                } else {
                    queue.set(i++, stays);
                }
            }
            queue.addAll(world.behindTurn);
            world.behindTurn.clear();
        }
    }

    /** null: it goes; else what it is then, where it stays. */
    private Item handled(int h, Item it) {
        int d = it.to / 8;
        int later = world.clock + 1;
        if (it.hops == 8) {
            way("hops are eight");
        }
        if (it.hops == 8 || noDomain(d) || plan.domains.get(d).isEmpty()) {
            return bounced(h, it);
        }
        if (!last(h, d)) {
            return asking(h, it, d);
        }
        switch (kind(it.to)) {
            case 1: {
                List<Letter> row = world.given.computeIfAbsent(it.to, a -> new ArrayList<>());
                boolean twice = row.subList(Math.max(0, row.size() - 8), row.size()).stream()
                        .anyMatch(l -> l.number == it.letter.number);
                if (!twice && row.stream().anyMatch(l -> l.number == it.letter.number)) {
                    way("given again behind eight others");
                }
                if (!twice) {
                    row.add(it.letter);
                }
                tell(twice ? 3 : 2, it, h);
                return null;
            }
            case 2:
                tell(4, it, h);
                return new Item(it.letter, leadsOf(it.to).get(0), 0, it.hops + 1, later, it.marks);
            case 3: {
                if (it.letter.from == null) {
                    tell(8, it, h);
                    return null;
                }
                List<Integer> marks = new ArrayList<>(it.marks);
                if (!marks.contains(it.to)) {
                    marks.add(it.to);
                }
                List<Integer> of = new ArrayList<>(leadsOf(it.to));
                of.removeIf(marks::contains);
                if (of.size() < leadsOf(it.to).size()) {
                    way("a marked list is left out");
                }
                if (of.isEmpty()) {
                    way("a list opens to none");
                }
                if (world.items() - 1 + of.size() > 60) {
                    way("no room to open");
                    return new Item(it.letter, it.to, it.tries, it.hops, later, it.marks);
                }
                tell(5, it, h);
                for (int to : of) {
                    world.behindTurn.add(new Item(it.letter, to, 0, it.hops + 1, later, marks));
                    world.ofLists++;
                }
                return null;
            }
            default:
                return bounced(h, it);
        }
    }

    private Item bounced(int h, Item it) {
        if (it.letter.from == null) {
            tell(8, it, h);
            return null;
        }
        tell(7, it, h);
        world.behindTurn.add(new Item(new Letter(world.letters++, null), it.letter.from, 0, 0, world.clock + 1,
                List.of()));
        return null;
    }

    private List<Integer> askedBy(int h, int d) {
        List<Receiver> all = new ArrayList<>(plan.domains.get(d));
        List<Receiver> own = all.stream().filter(r -> r.house == h).toList();
        if (!own.isEmpty()) {
            all.removeIf(r -> r.preference >= own.get(0).preference);
        }
        all.sort(Comparator.comparingInt(Receiver::preference).thenComparingInt(Receiver::house));
        return all.stream().map(Receiver::house).toList();
    }

    private Item asking(int h, Item it, int d) {
        for (int other : askedBy(h, d)) {
            if (world.up.get(other) && (!plan.wary.get(other) || taken(other, h, it))) {
                tell(1, it, other);
                world.queues.get(other).add(new Item(it.letter, it.to, 0, it.hops + 1, world.clock + 1, it.marks));
                return null;
            }
        }
        if (it.tries == 4) {
            return bounced(h, it);
        }
        tell(6, it, h);
        int[] waits = {1, 2, 4, 8};
        return new Item(it.letter, it.to, it.tries + 1, it.hops, world.clock + waits[it.tries], it.marks);
    }

    private boolean taken(int wary, int asks, Item it) {
        List<Stranger> known = world.strangers.get(wary);
        Stranger fresh = new Stranger(asks, it.letter.from, it.to, world.clock, false);
        for (Stranger s : known) {
            if (s.is(asks, it.letter.from, it.to)) {
                int ago = world.clock - s.when;
                if (s.passed && ago > 20) {
                    way("passed long ago");
                }
                if (s.passed || ago >= 3 && ago <= 20) {
                    known.set(known.indexOf(s), new Stranger(s.who, s.from, s.to, s.when, true));
                    return true;
                }
                if (ago > 20) {
                    way("put down anew");
                    known.remove(s);
                    known.add(fresh);
                }
                return false;
            }
        }
        known.add(fresh);
        if (known.size() > 8) {
            way("a stranger goes");
            known.remove(0);
        }
        return false;
    }

    int set(int h, int up) {
        if (noHouse(h) || up != 0 && up != 1) {
            return BAD;
        }
        return world.up.set(h, up == 1) ? 1 : 0;
    }

    int item(int h, int i, int what) {
        if (noHouse(h) || i < 0 || what < 0 || what > 6) {
            return BAD;
        }
        if (i >= world.queues.get(h).size()) {
            return NONE;
        }
        Item it = world.queues.get(h).get(i);
        return new int[] {it.letter.number, it.letter.from == null ? NONE : it.letter.from, it.to, it.tries, it.hops,
            it.due, it.marks.size()}[what];
    }

    int asks(int h, int d, int i) {
        if (noHouse(h) || noDomain(d) || i < 0) {
            return BAD;
        }
        List<Integer> asked = last(h, d) ? Collections.emptyList() : askedBy(h, d);
        return i < asked.size() ? asked.get(i) : NONE;
    }

    int stranger(int h, int i, int what) {
        if (noHouse(h) || i < 0 || what < 0 || what > 4) {
            return BAD;
        }
        if (i >= world.strangers.get(h).size()) {
            return NONE;
        }
        Stranger s = world.strangers.get(h).get(i);
        return new int[] {s.who, s.from == null ? NONE : s.from, s.to, s.when, s.passed ? 1 : 0}[what];
    }

    int log(int i, int what) {
        if (i < 0 || what < 0 || what > 4) {
            return BAD;
        }
        List<Deed> latest = world.log.subList(Math.max(0, world.log.size() - 60), world.log.size());
        if (i >= latest.size()) {
            return NONE;
        }
        Deed d = latest.get(i);
        return new int[] {d.what, d.clock, d.letter, d.house, d.to}[what];
    }

    // ---- by a seed, images, sheets

    int draw(int seed, int n) {
        if (n < 1 || n > 10) {
            return BAD;
        }
        if (plan.wary.isEmpty()) {
            return STATE;
        }
        long[] state = {seed & 0xffffffffL};
        int sent = 0;
        for (int i = 0; i < n; i++) {
            int h = get(state) % plan.wary.size();
            int from = get(state) % 32;
            sent += send(h, from, get(state) % 32) >= 0 ? 1 : 0;
        }
        return sent;
    }

    private static int get(long[] state) {
        state[0] = (state[0] * 1103515245L + 12345L) % 4294967296L;
        return (int) (state[0] / 65536 % 32768);
    }

    int keep(int k) {
        if (k < 0 || k > 1) {
            return BAD;
        }
        int was = images[k] == null ? 0 : 1;
        images[k] = world.copy();
        return was;
    }

    int back(int k) {
        if (k < 0 || k > 1) {
            return BAD;
        }
        if (images[k] == null) {
            return STATE;
        }
        world = images[k].copy();
        return world.items();
    }

    int sheet(int k, int lane, int n) {
        if (k < 0 || k > 3 || lane < 0 || lane > 1 || n > 40) {
            return BAD;
        }
        if (n < 0) {
            return -14;
        }
        sheets[k] = new long[n];
        lanes[k] = lane;
        return 1;
    }

    int lay(int k, int i, int v) {
        if (k < 0 || k > 3) {
            return BAD;
        }
        if (sheets[k] == null) {
            return -11;
        }
        if (i < 0 || i >= sheets[k].length) {
            return -13;
        }
        sheets[k][i] = lanes[k] == 0 ? (v & 255) - (v & 128) * 2 : v;
        return 1;
    }

    int post(int k, int lane, int f, int n) {
        if (k < 0 || k > 3 || lane < 0 || lane > 1 || n < 0 || n > 6) {
            return BAD;
        }
        if (sheets[k] == null) {
            return -11;
        }
        if (lanes[k] != lane) {
            return -12;
        }
        if (f < 0 || (long) f + 3 * n > sheets[k].length) {
            return -13;
        }
        World before = world.copy();
        for (int i = 0; i < n; i++) {
            if (send((int) sheets[k][f + 3 * i], (int) sheets[k][f + 3 * i + 1], (int) sheets[k][f + 3 * i + 2]) < 0) {
                world = before;
                return -20 - i;
            }
        }
        return n;
    }

    int count(int what) {
        if (what < 0 || what > 2) {
            return BAD;
        }
        int kept = (images[0] == null ? 0 : 1) + (images[1] == null ? 0 : 1);
        return what == 0 ? kept : what == 1 ? tape.length() : sheets[0] == null ? NONE : sheets[0].length;
    }
}
