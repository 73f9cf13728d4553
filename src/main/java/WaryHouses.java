import java.util.Arrays;

/** Letters carried from house to house; ../shared/DOC.md says what each call promises. */
public final class WaryHouses {
    public static final int BAD = -1, STATE = -2, FULL = -3, NONE = -4;

    private static final int MOST_BYTES = 200;
    private static final int MOST_HOUSES = 5;
    private static final int MOST_DOMAINS = 4;
    private static final int MOST_RECEIVERS = 3;
    private static final int MOST_PREFERENCE = 9;
    private static final int NAMES = 8;
    private static final int ADDRESSES = 32;
    private static final int MOST_LEADS = 4;
    private static final int MOST_ITEMS = 60;
    private static final int MOST_HOPS = 8;
    private static final int MOST_TRIES = 5;
    private static final int LATEST_GIVEN = 8;
    private static final int MOST_STRANGERS = 8;
    private static final int LATEST_LOG = 60;
    private static final int IMAGES = 2;
    private static final int SHEETS = 4;
    private static final int MOST_CELLS = 40;
    private static final int MOST_POSTED = 6;

    private static final int UNKNOWN = 0, BOX = 1, ALIAS = 2, LIST = 3;
    private static final int SENT = 0, WENT = 1, GIVEN = 2, DOUBLE = 3, BY_ALIAS = 4, OPENED = 5, TRIED = 6,
            BOUNCED = 7, DEAD = 8, DEEDS = 9;
    private static final int BYTES = 0, INTS = 1;
    private static final int NO_FAULT = 0, NULL_FAULT = 1, STORE_FAULT = 2, INDEX_FAULT = 3, SIZE_FAULT = 4;

    private final Tape tape = new Tape();
    private final Plan plan = new Plan();
    private final Round now = new Round();
    private final Carrier carrier = new Carrier(plan, now);
    private final Round[] images = new Round[IMAGES];
    private final boolean[] kept = new boolean[IMAGES];
    private final Sheet[] sheets = new Sheet[SHEETS];

    public WaryHouses() {
        for (int k = 0; k < IMAGES; k++) {
            images[k] = new Round();
        }
    }

    // ---- the text

    public int feed(int c) {
        if (c < 0 || c > 127) {
            return BAD;
        }
        if (tape.length >= MOST_BYTES) {
            return FULL;
        }
        tape.bytes[tape.length] = (byte) c;
        tape.length++;
        return tape.length;
    }

    public int end(int n) {
        if (n < 0 || n > tape.length) {
            return BAD;
        }
        int had = tape.length;
        tape.length = n;
        return had;
    }

    public int text() {
        boolean taken = tape.readText();
        tape.length = 0;
        if (!taken) {
            return -10 - tape.place;
        }
        plan.copyFrom(tape.draft);
        now.clear();
        forgetImages();
        return tape.lines;
    }

    public int fault() {
        return tape.found;
    }

    public int rule(int what) {
        switch (what) {
            case 0:
                return plan.houses;
            case 1:
                return plan.domains;
            case 2:
            case 3:
            case 4:
                return plan.told[what - 1];
            case 5:
                return now.clock;
            case 6:
                return now.letters;
            case 7:
                return now.mail.living;
            case 17:
                return now.ofLists;
            default:
                return what >= 8 && what < 8 + DEEDS ? now.book.tally[what - 8] : BAD;
        }
    }

    public int house(int h, int what) {
        if (!isHouse(h)) {
            return BAD;
        }
        switch (what) {
            case 0:
                return plan.wary[h];
            case 1:
                return now.up[h];
            case 2:
                return now.mail.itemsIn(h);
            case 3:
                return now.strangers[h].known;
            case 4:
                return now.strangers[h].passed();
            case 5:
                return plan.domainsEndingIn(h);
            default:
                return BAD;
        }
    }

    public int receiver(int d, int i, int what) {
        if (!isDomain(d) || i < 0 || what < 0 || what > 2) {
            return BAD;
        }
        if (i >= plan.receivers[d]) {
            return NONE;
        }
        int place = d * MOST_RECEIVERS + i;
        if (what == 2) {
            return plan.isLast(plan.receiverHouse[place], d) ? 1 : 0;
        }
        return what == 0 ? plan.receiverHouse[place] : plan.preference[place];
    }

    public int address(int a, int what) {
        if (!isAddress(a) || what < 0 || what > 3) {
            return BAD;
        }
        int kind = plan.kind[a];
        if (what == 0) {
            return kind;
        }
        if (kind == LIST && what == 1) {
            return plan.leadCount[a];
        }
        return kind == BOX ? now.boxes.answer(a, what) : NONE;
    }

    public int leads(int a, int i) {
        if (!isAddress(a) || i < 0) {
            return BAD;
        }
        return i < plan.leadCount[a] ? plan.lead(a, i) : NONE;
    }

    public int reaches(int a, int i) {
        if (!isAddress(a) || i < 0) {
            return BAD;
        }
        int reached = plan.reachedFrom(a);
        int left = i;
        for (int b = 0; b < ADDRESSES; b++) {
            if ((reached >>> b & 1) == 1 && plan.kind[b] == BOX) {
                if (left == 0) {
                    return b;
                }
                left--;
            }
        }
        return NONE;
    }

    // ---- letters on their way

    public int send(int h, int from, int to) {
        return carrier.takeLetter(h, from, to);
    }

    public int tick(int n) {
        if (n < 1 || n > 20) {
            return BAD;
        }
        int before = now.book.tally[GIVEN];
        for (int i = 0; i < n; i++) {
            carrier.passTick();
        }
        return now.book.tally[GIVEN] - before;
    }

    public int run(int n) {
        if (n < 1 || n > 60) {
            return BAD;
        }
        int ticks = 0;
        while (ticks < n && now.mail.living > 0) {
            carrier.passTick();
            ticks++;
        }
        return ticks;
    }

    public int set(int h, int up) {
        if (!isHouse(h) || up < 0 || up > 1) {
            return BAD;
        }
        int was = now.up[h];
        now.up[h] = up;
        return was;
    }

    public int item(int h, int i, int what) {
        if (!isHouse(h) || i < 0 || what < 0 || what > 6) {
            return BAD;
        }
        Item found = now.mail.find(h, i);
        return found == null ? NONE : found.answer(what);
    }

    public int asks(int h, int d, int i) {
        if (!isHouse(h) || !isDomain(d) || i < 0) {
            return BAD;
        }
        return plan.asked(h, d, i);
    }

    public int stranger(int h, int i, int what) {
        if (!isHouse(h) || i < 0 || what < 0 || what >= Strangers.COLUMNS) {
            return BAD;
        }
        Strangers strangers = now.strangers[h];
        return i < strangers.known ? strangers.cells[i * Strangers.COLUMNS + what] : NONE;
    }

    public int log(int i, int what) {
        if (i < 0 || what < 0 || what >= Book.COLUMNS) {
            return BAD;
        }
        return i < now.book.held ? now.book.answer(i, what) : NONE;
    }

    // ---- by a seed, images, sheets

    public int draw(int seed, int n) {
        if (n < 1 || n > 10) {
            return BAD;
        }
        if (plan.houses < 1) {
            return STATE;
        }
        int state = seed;
        int sent = 0;
        for (int i = 0; i < n; i++) {
            state = nextSeed(state);
            int h = got(state) % plan.houses;
            state = nextSeed(state);
            int from = got(state) % ADDRESSES;
            state = nextSeed(state);
            int to = got(state) % ADDRESSES;
            if (carrier.takeLetter(h, from, to) >= 0) {
                sent++;
            }
        }
        return sent;
    }

    public int keep(int k) {
        if (!isImage(k)) {
            return BAD;
        }
        int was = kept[k] ? 1 : 0;
        images[k].copyFrom(now);
        kept[k] = true;
        return was;
    }

    public int back(int k) {
        if (!isImage(k)) {
            return BAD;
        }
        if (!kept[k]) {
            return STATE;
        }
        now.copyFrom(images[k]);
        return now.mail.living;
    }

    public int sheet(int k, int lane, int n) {
        if (!isSheet(k) || !isLane(lane) || n > MOST_CELLS) {
            return BAD;
        }
        if (n < 0) {
            return -10 - SIZE_FAULT;
        }
        sheets[k] = new Sheet(lane, n);
        return 1;
    }

    public int lay(int k, int i, int v) {
        if (!isSheet(k)) {
            return BAD;
        }
        Sheet sheet = sheets[k];
        if (sheet == null) {
            return -10 - NULL_FAULT;
        }
        if (i < 0 || i >= sheet.size) {
            return -10 - INDEX_FAULT;
        }
        sheet.put(i, v);
        return 1;
    }

    public int post(int k, int lane, int f, int n) {
        if (!isSheet(k) || !isLane(lane) || n < 0 || n > MOST_POSTED) {
            return BAD;
        }
        Sheet sheet = sheets[k];
        int found = copyFault(sheet, lane, f, 3 * n);
        if (sheet == null || found != NO_FAULT) {
            return -10 - found;
        }
        Sheet row = new Sheet(lane, 3 * n);
        row.fillFrom(sheet, f);
        return carrier.takeAll(row, n);
    }

    public int count(int what) {
        switch (what) {
            case 0:
                return (kept[0] ? 1 : 0) + (kept[1] ? 1 : 0);
            case 1:
                return tape.length;
            case 2:
                return sheets[0] == null ? NONE : sheets[0].size;
            default:
                return BAD;
        }
    }

    private boolean isHouse(int h) {
        return h >= 0 && h < plan.houses;
    }

    private boolean isDomain(int d) {
        return d >= 0 && d < plan.domains;
    }

    private static boolean isAddress(int a) {
        return a >= 0 && a < ADDRESSES;
    }

    private static boolean isImage(int k) {
        return k >= 0 && k < IMAGES;
    }

    private static boolean isSheet(int k) {
        return k >= 0 && k < SHEETS;
    }

    private static boolean isLane(int lane) {
        return lane == BYTES || lane == INTS;
    }

    private void forgetImages() {
        for (int k = 0; k < IMAGES; k++) {
            kept[k] = false;
        }
    }

    private static int nextSeed(int seed) {
        return seed * 1103515245 + 12345;
    }

    private static int got(int seed) {
        return seed >>> 16 & 0x7fff;
    }

    /** What the machine would find in a copy of so many cells from f on, as it looks for it. */
    private static int copyFault(Sheet sheet, int lane, int f, int cells) {
        if (sheet == null) {
            return NULL_FAULT;
        }
        if (sheet.lane != lane) {
            return STORE_FAULT;
        }
        return f < 0 || f > sheet.size - cells ? INDEX_FAULT : NO_FAULT;
    }

    /** All that a text tells. */
    private static final class Plan {
        int houses;
        int domains;
        final int[] wary = new int[MOST_HOUSES];
        final int[] receivers = new int[MOST_DOMAINS];
        final int[] receiverHouse = new int[MOST_DOMAINS * MOST_RECEIVERS];
        final int[] preference = new int[MOST_DOMAINS * MOST_RECEIVERS];
        /** The same receivers, as places in the rows above, in the order in which they are asked. */
        final int[] ranked = new int[MOST_DOMAINS * MOST_RECEIVERS];
        final int[] kind = new int[ADDRESSES];
        /** How many addresses there are of each kind (of UNKNOWN it is not kept). */
        final int[] told = new int[LIST + 1];
        final int[] leadCount = new int[ADDRESSES];
        final int[] leadTo = new int[ADDRESSES * MOST_LEADS];

        void clear() {
            houses = 0;
            domains = 0;
            Arrays.fill(wary, 0);
            Arrays.fill(receivers, 0);
            Arrays.fill(kind, UNKNOWN);
            Arrays.fill(told, 0);
            Arrays.fill(leadCount, 0);
        }

        void copyFrom(Plan other) {
            houses = other.houses;
            domains = other.domains;
            System.arraycopy(other.wary, 0, wary, 0, wary.length);
            System.arraycopy(other.receivers, 0, receivers, 0, receivers.length);
            System.arraycopy(other.receiverHouse, 0, receiverHouse, 0, receiverHouse.length);
            System.arraycopy(other.preference, 0, preference, 0, preference.length);
            System.arraycopy(other.ranked, 0, ranked, 0, ranked.length);
            System.arraycopy(other.kind, 0, kind, 0, kind.length);
            System.arraycopy(other.told, 0, told, 0, told.length);
            System.arraycopy(other.leadCount, 0, leadCount, 0, leadCount.length);
            System.arraycopy(other.leadTo, 0, leadTo, 0, leadTo.length);
        }

        void addHouse(boolean isWary) {
            if (houses < MOST_HOUSES) {
                wary[houses] = isWary ? 1 : 0;
                houses++;
            }
        }

        void addReceiver(int d, int h, int wanted) {
            int n = receivers[d];
            if (n >= MOST_RECEIVERS) {
                return;
            }
            int first = d * MOST_RECEIVERS;
            receiverHouse[first + n] = h;
            preference[first + n] = wanted;
            int rank = n;
            while (rank > 0 && isAskedAhead(first + n, ranked[first + rank - 1])) {
                ranked[first + rank] = ranked[first + rank - 1];
                rank--;
            }
            ranked[first + rank] = first + n;
            receivers[d] = n + 1;
        }

        boolean isAskedAhead(int one, int other) {
            if (preference[one] != preference[other]) {
                return preference[one] < preference[other];
            }
            return receiverHouse[one] < receiverHouse[other];
        }

        void tell(int a, int what) {
            kind[a] = what;
            told[what]++;
        }

        void addLead(int a, int to) {
            int n = leadCount[a];
            if (n < MOST_LEADS) {
                leadTo[a * MOST_LEADS + n] = to;
                leadCount[a] = n + 1;
            }
        }

        int lead(int a, int i) {
            return leadTo[a * MOST_LEADS + i];
        }

        boolean hasLead(int a, int to) {
            for (int i = 0; i < leadCount[a]; i++) {
                if (lead(a, i) == to) {
                    return true;
                }
            }
            return false;
        }

        boolean hasReceivers(int d) {
            return d >= 0 && d < domains && receivers[d] > 0;
        }

        /** NONE, if the house does not receive for the domain. */
        int preferenceOf(int h, int d) {
            int first = d * MOST_RECEIVERS;
            for (int i = first; i < first + receivers[d]; i++) {
                if (receiverHouse[i] == h) {
                    return preference[i];
                }
            }
            return NONE;
        }

        boolean isLast(int h, int d) {
            return hasReceivers(d) && preferenceOf(h, d) == preference[ranked[d * MOST_RECEIVERS]];
        }

        int domainsEndingIn(int h) {
            int n = 0;
            for (int d = 0; d < domains; d++) {
                if (isLast(h, d)) {
                    n++;
                }
            }
            return n;
        }

        /** Those that are asked stand at the head of the ranked ones, so the i-th is found at once. */
        int asked(int h, int d, int i) {
            if (i >= receivers[d]) {
                return NONE;
            }
            int own = preferenceOf(h, d);
            int place = ranked[d * MOST_RECEIVERS + i];
            return own == NONE || preference[place] < own ? receiverHouse[place] : NONE;
        }

        /** A bit for each address at which one comes, a itself among them. */
        int reachedFrom(int a) {
            int seen = 1 << a;
            for (int round = 0; round < ADDRESSES; round++) {
                int more = seen;
                for (int b = 0; b < ADDRESSES; b++) {
                    if ((more >>> b & 1) == 1) {
                        more |= leadBits(b);
                    }
                }
                if (more == seen) {
                    return seen;
                }
                seen = more;
            }
            return seen;
        }

        int leadBits(int a) {
            int bits = 0;
            for (int i = 0; i < leadCount[a]; i++) {
                bits |= 1 << lead(a, i);
            }
            return bits;
        }
    }

    /** The tape and what reads it: into a draft, so that a text with a fault leaves what was told. */
    private static final class Tape {
        private static final int MOST_FIGURES = 2;
        private static final int END = 0, NAME = 1, NUMBER = 2, SIGN = 3;
        private static final int NO_TOKEN = 1, CAN_NOT_STAND = 2, OUT_OF_BOUNDS = 3, TWICE = 4, TOO_MANY = 5,
                NO_HOUSE = 6, NO_DOMAIN = 7;

        final byte[] bytes = new byte[MOST_BYTES];
        int length;
        final Plan draft = new Plan();
        int next;
        int token;
        int start;
        int value;
        int named;
        int found;
        int place;
        int lines;

        boolean readText() {
            draft.clear();
            next = 0;
            found = NO_FAULT;
            for (lines = 0; lines <= length; lines++) {
                if (!readToken()) {
                    return false;
                }
                if (token == END) {
                    return allIsThere();
                }
                boolean stands = isWord("house") ? readHouse()
                        : isWord("domain") ? readDomain()
                        : isWord("box") ? readBox()
                        : isWord("alias") ? readAlias()
                        : isWord("list") ? readList()
                        : refuse(CAN_NOT_STAND);
                if (!stands) {
                    return false;
                }
            }
            return allIsThere();
        }

        boolean readHouse() {
            if (draft.houses >= MOST_HOUSES) {
                return refuse(TOO_MANY);
            }
            if (!readToken()) {
                return false;
            }
            boolean isWary = isWord("wary");
            if (isWary && !readToken()) {
                return false;
            }
            draft.addHouse(isWary);
            return signStands();
        }

        boolean readDomain() {
            if (draft.domains >= MOST_DOMAINS) {
                return refuse(TOO_MANY);
            }
            int d = draft.domains;
            draft.domains++;
            for (int i = 0; i < MOST_RECEIVERS; i++) {
                if (!readToken()) {
                    return false;
                }
                if (token == SIGN) {
                    return true;
                }
                if (!readReceiver(d)) {
                    return false;
                }
            }
            return readSign();
        }

        boolean readReceiver(int d) {
            if (!numberStands(MOST_HOUSES - 1)) {
                return false;
            }
            int h = value;
            if (draft.preferenceOf(h, d) != NONE) {
                return refuse(TWICE);
            }
            if (!readToken() || !numberStands(MOST_PREFERENCE)) {
                return false;
            }
            draft.addReceiver(d, h, value);
            return true;
        }

        boolean readTold(int kind) {
            if (!readToken() || !addressStands()) {
                return false;
            }
            if (draft.kind[named] != UNKNOWN) {
                return refuse(TWICE);
            }
            draft.tell(named, kind);
            return true;
        }

        boolean readBox() {
            return readTold(BOX) && readSign();
        }

        boolean readAlias() {
            if (!readTold(ALIAS)) {
                return false;
            }
            int alias = named;
            if (!readToken() || !addressStands()) {
                return false;
            }
            draft.addLead(alias, named);
            return readSign();
        }

        boolean readList() {
            if (!readTold(LIST)) {
                return false;
            }
            int list = named;
            for (int i = 0; i < MOST_LEADS; i++) {
                if (!readToken()) {
                    return false;
                }
                if (token == SIGN && i > 0) {
                    return true;
                }
                if (!addressStands()) {
                    return false;
                }
                if (draft.hasLead(list, named)) {
                    return refuse(TWICE);
                }
                draft.addLead(list, named);
            }
            return readSign();
        }

        /** The token at hand and the one behind it are an address. */
        boolean addressStands() {
            if (!numberStands(MOST_DOMAINS - 1)) {
                return false;
            }
            int d = value;
            if (!readToken() || !numberStands(NAMES - 1)) {
                return false;
            }
            named = NAMES * d + value;
            return true;
        }

        boolean numberStands(int most) {
            if (token != NUMBER) {
                return refuse(CAN_NOT_STAND);
            }
            return value <= most || refuse(OUT_OF_BOUNDS);
        }

        boolean readSign() {
            return readToken() && signStands();
        }

        boolean signStands() {
            return token == SIGN || refuse(CAN_NOT_STAND);
        }

        /** Looked at behind the last line: what is told of houses and domains may stand ahead of them. */
        boolean allIsThere() {
            start = length;
            for (int d = 0; d < draft.domains; d++) {
                for (int i = 0; i < draft.receivers[d]; i++) {
                    if (draft.receiverHouse[d * MOST_RECEIVERS + i] >= draft.houses) {
                        return refuse(NO_HOUSE);
                    }
                }
            }
            for (int a = draft.domains * NAMES; a < ADDRESSES; a++) {
                if (draft.kind[a] != UNKNOWN) {
                    return refuse(NO_DOMAIN);
                }
            }
            return true;
        }

        boolean readToken() {
            while (next < length && bytes[next] == ' ') {
                next++;
            }
            start = next;
            token = next < length ? tokenOf(bytes[next]) : END;
            if (token == END) {
                return true;
            }
            if (token == NONE) {
                return refuse(NO_TOKEN);
            }
            next++;
            if (token == SIGN) {
                return true;
            }
            while (next < length && tokenOf(bytes[next]) == token) {
                next++;
            }
            if (token == NUMBER) {
                if (next - start > MOST_FIGURES) {
                    return refuse(NO_TOKEN);
                }
                value = valueRead();
            }
            return true;
        }

        static int tokenOf(int c) {
            if (c >= 'a' && c <= 'z') {
                return NAME;
            }
            if (c >= '0' && c <= '9') {
                return NUMBER;
            }
            return c == ';' ? SIGN : NONE;
        }

        int valueRead() {
            int read = 0;
            for (int i = start; i < next; i++) {
                read = read * 10 + bytes[i] - '0';
            }
            return read;
        }

        boolean isWord(String word) {
            if (token != NAME || next - start != word.length()) {
                return false;
            }
            for (int i = 0; i < word.length(); i++) {
                if (bytes[start + i] != word.charAt(i)) {
                    return false;
                }
            }
            return true;
        }

        boolean refuse(int why) {
            found = why;
            place = start;
            return false;
        }
    }

    /** All that comes of ANEW, but images. A text ends all images, so none needs the plan. */
    private static final class Round {
        int clock;
        int letters;
        int ofLists;
        final int[] up = new int[MOST_HOUSES];
        final Mail mail = new Mail();
        final Boxes boxes = new Boxes();
        final Book book = new Book();
        final Strangers[] strangers = new Strangers[MOST_HOUSES];

        Round() {
            for (int h = 0; h < MOST_HOUSES; h++) {
                strangers[h] = new Strangers();
            }
        }

        void clear() {
            clock = 0;
            letters = 0;
            ofLists = 0;
            Arrays.fill(up, 1);
            mail.clear();
            boxes.clear();
            book.clear();
            for (int h = 0; h < MOST_HOUSES; h++) {
                strangers[h].known = 0;
            }
        }

        void copyFrom(Round other) {
            clock = other.clock;
            letters = other.letters;
            ofLists = other.ofLists;
            System.arraycopy(other.up, 0, up, 0, up.length);
            mail.copyFrom(other.mail);
            boxes.copyFrom(other.boxes);
            book.copyFrom(other.book);
            for (int h = 0; h < MOST_HOUSES; h++) {
                strangers[h].copyFrom(other.strangers[h]);
            }
        }
    }

    private static final class Item {
        static final int GONE = -1;

        int at;
        int letter;
        int from;
        int to;
        int tries;
        int hops;
        int due;
        /** A bit for each list. */
        int marks;

        int answer(int what) {
            switch (what) {
                case 0:
                    return letter;
                case 1:
                    return from;
                case 2:
                    return to;
                case 3:
                    return tries;
                case 4:
                    return hops;
                case 5:
                    return due;
                default:
                    return Integer.bitCount(marks);
            }
        }

        void copyFrom(Item other) {
            at = other.at;
            letter = other.letter;
            from = other.from;
            to = other.to;
            tries = other.tries;
            hops = other.hops;
            due = other.due;
            marks = other.marks;
        }
    }

    /** All items, as they came: the queue of a house is what of them is there, in the same order. */
    private static final class Mail {
        /** Twice as many as may live: those that go in a turn (60 at most) leave their rows behind it. */
        final Item[] rows = new Item[2 * MOST_ITEMS];
        int used;
        int living;

        Mail() {
            for (int i = 0; i < rows.length; i++) {
                rows[i] = new Item();
            }
        }

        void clear() {
            used = 0;
            living = 0;
        }

        void copyFrom(Mail other) {
            for (int i = 0; i < other.used; i++) {
                rows[i].copyFrom(other.rows[i]);
            }
            used = other.used;
            living = other.living;
        }

        Item add(int at, int letter, int from, int to, int due) {
            int free = used < rows.length ? used : rows.length - 1;
            Item item = rows[free];
            item.at = at;
            item.letter = letter;
            item.from = from;
            item.to = to;
            item.tries = 0;
            item.hops = 0;
            item.due = due;
            item.marks = 0;
            used = free + 1;
            living++;
            return item;
        }

        /** One more of the same letter, that has gone on by a hop. */
        void addOnward(Item of, int at, int to, int marks, int due) {
            Item item = add(at, of.letter, of.from, to, due);
            item.hops = of.hops + 1;
            item.marks = marks;
        }

        void remove(Item item) {
            item.at = Item.GONE;
            living--;
        }

        void closeGaps() {
            int next = 0;
            for (int i = 0; i < used; i++) {
                Item item = rows[i];
                if (item.at != Item.GONE) {
                    rows[i] = rows[next];
                    rows[next] = item;
                    next++;
                }
            }
            used = next;
        }

        int itemsIn(int h) {
            int n = 0;
            for (int i = 0; i < used; i++) {
                if (rows[i].at == h) {
                    n++;
                }
            }
            return n;
        }

        /** null, if there are not so many in that house. */
        Item find(int h, int place) {
            int left = place;
            for (int i = 0; i < used; i++) {
                if (rows[i].at == h) {
                    if (left == 0) {
                        return rows[i];
                    }
                    left--;
                }
            }
            return null;
        }
    }

    /** What each box was given. */
    private static final class Boxes {
        final int[] given = new int[ADDRESSES];
        final int[] latestFrom = new int[ADDRESSES];
        final int[] latest = new int[ADDRESSES * LATEST_GIVEN];

        void clear() {
            Arrays.fill(given, 0);
        }

        void copyFrom(Boxes other) {
            System.arraycopy(other.given, 0, given, 0, given.length);
            System.arraycopy(other.latestFrom, 0, latestFrom, 0, latestFrom.length);
            System.arraycopy(other.latest, 0, latest, 0, latest.length);
        }

        int answer(int a, int what) {
            if (what == 1) {
                return given[a];
            }
            if (given[a] == 0) {
                return NONE;
            }
            return what == 2 ? latest[a * LATEST_GIVEN + (given[a] - 1) % LATEST_GIVEN] : latestFrom[a];
        }

        boolean knows(int a, int letter) {
            int n = Math.min(given[a], LATEST_GIVEN);
            for (int i = 0; i < n; i++) {
                if (latest[a * LATEST_GIVEN + i] == letter) {
                    return true;
                }
            }
            return false;
        }

        void put(int a, int letter, int from) {
            latest[a * LATEST_GIVEN + given[a] % LATEST_GIVEN] = letter;
            latestFrom[a] = from;
            given[a]++;
        }
    }

    /** The log, a ring of rows, and how often each deed was done. */
    private static final class Book {
        static final int COLUMNS = 5;

        final int[] tally = new int[DEEDS];
        final int[] cells = new int[LATEST_LOG * COLUMNS];
        int first;
        int held;

        void clear() {
            Arrays.fill(tally, 0);
            first = 0;
            held = 0;
        }

        void copyFrom(Book other) {
            System.arraycopy(other.tally, 0, tally, 0, tally.length);
            System.arraycopy(other.cells, 0, cells, 0, cells.length);
            first = other.first;
            held = other.held;
        }

        void write(int deed, int clock, Item item, int at) {
            int row = (first + held) % LATEST_LOG * COLUMNS;
            cells[row] = deed;
            cells[row + 1] = clock;
            cells[row + 2] = item.letter;
            cells[row + 3] = at;
            cells[row + 4] = item.to;
            tally[deed]++;
            if (held < LATEST_LOG) {
                held++;
            } else {
                first = (first + 1) % LATEST_LOG;
            }
        }

        int answer(int i, int what) {
            return cells[(first + i) % LATEST_LOG * COLUMNS + what];
        }
    }

    /** Those that one house knows, the one that was put down the longest ago first. */
    private static final class Strangers {
        static final int COLUMNS = 5;
        private static final int WHO = 0, FROM = 1, TO = 2, WHEN = 3, PASSED = 4;
        private static final int SOONEST = 3, LATEST = 20;

        final int[] cells = new int[MOST_STRANGERS * COLUMNS];
        int known;

        void copyFrom(Strangers other) {
            System.arraycopy(other.cells, 0, cells, 0, cells.length);
            known = other.known;
        }

        int passed() {
            int n = 0;
            for (int i = 0; i < known; i++) {
                n += cells[i * COLUMNS + PASSED];
            }
            return n;
        }

        boolean lets(int who, int from, int to, int clock) {
            int i = find(who, from, to);
            if (i == NONE) {
                if (known >= MOST_STRANGERS) {
                    forget(0);
                }
                putDown(who, from, to, clock);
                return false;
            }
            int row = i * COLUMNS;
            int ago = clock - cells[row + WHEN];
            if (cells[row + PASSED] == 1 || ago >= SOONEST && ago <= LATEST) {
                cells[row + PASSED] = 1;
                return true;
            }
            if (ago > LATEST) {
                forget(i);
                putDown(who, from, to, clock);
            }
            return false;
        }

        int find(int who, int from, int to) {
            for (int i = 0; i < known; i++) {
                int row = i * COLUMNS;
                if (cells[row + WHO] == who && cells[row + FROM] == from && cells[row + TO] == to) {
                    return i;
                }
            }
            return NONE;
        }

        void putDown(int who, int from, int to, int clock) {
            int row = known * COLUMNS;
            cells[row + WHO] = who;
            cells[row + FROM] = from;
            cells[row + TO] = to;
            cells[row + WHEN] = clock;
            cells[row + PASSED] = 0;
            known++;
        }

        void forget(int i) {
            known--;
            System.arraycopy(cells, (i + 1) * COLUMNS, cells, i * COLUMNS, (known - i) * COLUMNS);
        }
    }

    /** Takes letters and carries their items, a tick at a time. */
    private static final class Carrier {
        final Plan plan;
        final Round now;

        Carrier(Plan plan, Round now) {
            this.plan = plan;
            this.now = now;
        }

        /** Why a letter is refused, if so many items more were there: BAD, FULL, or 0. */
        int refusal(int h, int from, int to, int more) {
            if (h < 0 || h >= plan.houses || !isAddress(from) || !isAddress(to)) {
                return BAD;
            }
            return now.mail.living + more >= MOST_ITEMS ? FULL : 0;
        }

        int takeLetter(int h, int from, int to) {
            int refused = refusal(h, from, to, 0);
            if (refused != 0) {
                return refused;
            }
            int letter = now.letters;
            now.letters++;
            Item item = now.mail.add(h, letter, from, to, now.clock + 1);
            now.book.write(SENT, now.clock, item, h);
            return letter;
        }

        /** All of a row are looked at ahead of the first that is sent, so that none is if one is refused. */
        int takeAll(Sheet row, int n) {
            for (int i = 0; i < n; i++) {
                if (refusal(row.cell(3 * i), row.cell(3 * i + 1), row.cell(3 * i + 2), i) != 0) {
                    return -20 - i;
                }
            }
            for (int i = 0; i < n; i++) {
                takeLetter(row.cell(3 * i), row.cell(3 * i + 1), row.cell(3 * i + 2));
            }
            return n;
        }

        void passTick() {
            now.clock++;
            for (int h = 0; h < plan.houses; h++) {
                if (now.up[h] == 1) {
                    takeTurn(h);
                }
            }
        }

        void takeTurn(int h) {
            int ahead = now.mail.used;
            for (int i = 0; i < ahead; i++) {
                Item item = now.mail.rows[i];
                if (item.at == h && item.due <= now.clock) {
                    handle(item);
                }
            }
            now.mail.closeGaps();
        }

        void handle(Item item) {
            int d = item.to / NAMES;
            if (item.hops >= MOST_HOPS || !plan.hasReceivers(d)) {
                bounce(item);
                return;
            }
            if (!plan.isLast(item.at, d)) {
                if (!passOn(item, d)) {
                    tryLater(item);
                }
                return;
            }
            switch (plan.kind[item.to]) {
                case BOX:
                    give(item);
                    break;
                case ALIAS:
                    followAlias(item);
                    break;
                case LIST:
                    openList(item);
                    break;
                default:
                    bounce(item);
                    break;
            }
        }

        void give(Item item) {
            if (now.boxes.knows(item.to, item.letter)) {
                now.book.write(DOUBLE, now.clock, item, item.at);
            } else {
                now.boxes.put(item.to, item.letter, item.from);
                now.book.write(GIVEN, now.clock, item, item.at);
            }
            now.mail.remove(item);
        }

        void followAlias(Item item) {
            now.book.write(BY_ALIAS, now.clock, item, item.at);
            item.to = plan.lead(item.to, 0);
            item.hops++;
            item.tries = 0;
            item.due = now.clock + 1;
        }

        void openList(Item item) {
            if (item.from == NONE) {
                now.book.write(DEAD, now.clock, item, item.at);
                now.mail.remove(item);
                return;
            }
            int list = item.to;
            int marks = item.marks | 1 << list;
            int more = unmarked(list, marks);
            if (now.mail.living - 1 + more > MOST_ITEMS) {
                item.due = now.clock + 1;
                return;
            }
            now.book.write(OPENED, now.clock, item, item.at);
            for (int i = 0; i < plan.leadCount[list]; i++) {
                int to = plan.lead(list, i);
                if ((marks >>> to & 1) == 0) {
                    now.mail.addOnward(item, item.at, to, marks, now.clock + 1);
                }
            }
            now.ofLists += more;
            now.mail.remove(item);
        }

        int unmarked(int list, int marks) {
            int n = 0;
            for (int i = 0; i < plan.leadCount[list]; i++) {
                if ((marks >>> plan.lead(list, i) & 1) == 0) {
                    n++;
                }
            }
            return n;
        }

        /** Whether one of those that are asked takes it. */
        boolean passOn(Item item, int d) {
            for (int i = 0; i < MOST_RECEIVERS; i++) {
                int h = plan.asked(item.at, d, i);
                if (h == NONE) {
                    return false;
                }
                if (now.up[h] == 1 && (plan.wary[h] == 0
                        || now.strangers[h].lets(item.at, item.from, item.to, now.clock))) {
                    now.book.write(WENT, now.clock, item, h);
                    now.mail.addOnward(item, h, item.to, item.marks, now.clock + 1);
                    now.mail.remove(item);
                    return true;
                }
            }
            return false;
        }

        void tryLater(Item item) {
            item.tries++;
            if (item.tries >= MOST_TRIES) {
                bounce(item);
                return;
            }
            now.book.write(TRIED, now.clock, item, item.at);
            item.due = now.clock + (1 << (item.tries - 1));
        }

        void bounce(Item item) {
            if (item.from == NONE) {
                now.book.write(DEAD, now.clock, item, item.at);
            } else {
                now.book.write(BOUNCED, now.clock, item, item.at);
                now.mail.add(item.at, now.letters, NONE, item.from, now.clock + 1);
                now.letters++;
            }
            now.mail.remove(item);
        }
    }

    /** A row of bytes or of ints; the row of the other lane stays empty. */
    private static final class Sheet {
        final int lane;
        final int size;
        final byte[] bytes;
        final int[] ints;

        Sheet(int lane, int n) {
            this.lane = lane;
            this.size = n;
            this.bytes = new byte[lane == BYTES ? n : 0];
            this.ints = new int[lane == INTS ? n : 0];
        }

        int cell(int i) {
            return lane == BYTES ? bytes[i] : ints[i];
        }

        void put(int i, int v) {
            if (lane == BYTES) {
                bytes[i] = (byte) v;
            } else {
                ints[i] = v;
            }
        }

        /** As many as this row has, of another one of the same lane, from its cell f on. */
        void fillFrom(Sheet other, int f) {
            if (lane == BYTES) {
                System.arraycopy(other.bytes, f, bytes, 0, size);
            } else {
                System.arraycopy(other.ints, f, ints, 0, size);
            }
        }
    }
}
