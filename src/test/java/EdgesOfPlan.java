/** Promises 6 to 11 and 17: what is asked of a text that was told, and of what came of it. */
final class EdgesOfPlan {
    private static final String HOUSES = "house;house;house;house;house;";

    private EdgesOfPlan() {
    }

    static void check() {
        leastAndMostOfRules();
        countsBeyondTheLog();
        noRule();
        leastAndMostOfHouses();
        noHouse();
        noReceiver();
        notSoManyReceivers();
        kinds();
        boxes();
        elseNone();
        noAddress();
        leads();
        leadsOfNone();
        noLeads();
        reachesItself();
        reachesFar();
        reachesNone();
        noReaches();
        asks();
        asksNone();
        noAsks();
    }

    private static void leastAndMostOfRules() {
        Checks.of(6, "0 HOUSES, 1 DOMAINS, 2 BOXES, 3 ALIASES, 4 LISTS, 5 CLOCK, 6 LETTERS, 7 ITEMS.");
        WaryHouses none = Checks.told(0, "");
        Checks.answers("rule(what) of an empty text", none::rule, 0, 0, 0, 0, 0, 0, 0, 0);
        WaryHouses most = Checks.told(9, HOUSES + "domain;domain;domain;domain;");
        Checks.answers("rule(what) of the most", most::rule, 5, 4, 0, 0, 0);
        Checks.answers("rule(what), boxes alone", Checks.told(4, "domain;box 0 0;box 0 1;box 0 7;")::rule, 0, 1, 3, 0, 0);
        Checks.answers("rule(what), aliases alone", Checks.told(3, "domain;alias 0 0 0 0;alias 0 7 3 7;")::rule, 0, 1, 0, 2, 0);
        Checks.answers("rule(what), lists alone", Checks.told(2, "domain;list 0 0 0 0 0 1;")::rule, 0, 1, 0, 0, 1);
        WaryHouses x = Checks.told(3, "house;domain 0 0;box 0 0;");
        x.tick(20);
        for (int i = 0; i < 60; i++) {
            x.send(0, 0, 1);
        }
        Checks.answers("rule(what), sixty on their way", x::rule, 1, 1, 1, 0, 0, 20, 60, 60);
        x.tick(1);
        Checks.answers("rule(what), sixty come back", x::rule, 1, 1, 1, 0, 0, 21, 120, 60);
        x.tick(1);
        Checks.answers("rule(what), all given", x::rule, 1, 1, 1, 0, 0, 22, 120, 0);
        WaryHouses clock = Checks.told(1, "house;");
        for (int i = 1; i <= 10; i++) {
            clock.tick(20);
            Checks.due("rule(5)", clock.rule(5), 20 * i);
        }
    }

    private static void countsBeyondTheLog() {
        Checks.of(6, "Since ANEW, how many of what THE LOG tells: 8 SENT, 9 that went to another HOUSE, 10 GIVEN, 11 DOUBLES,"
                + " 12 by an ALIAS, 13 OPENED, 14 TRIES (not the 5th), 15 BOUNCED, 16 DEAD; 17 ITEMS that came of LISTS.");
        WaryHouses none = Checks.told(1, "house;");
        for (int what = 8; what <= 17; what++) {
            Checks.due("rule(" + what + "), none yet", none.rule(what), 0);
        }
        WaryHouses busy = Scenes.busy();
        Checks.answers("rule(8 + i)", i -> busy.rule(8 + i), 5, 1, 3, 1, 1, 1, 3, 1, 1, 3);
        WaryHouses x = Checks.told(3, "house;domain 0 0;box 0 0;");
        for (int i = 0; i < 150; i++) {
            x.send(0, 1, i % 2);
            if (i % 50 == 49) {
                x.tick(2);
            }
        }
        Checks.due("log(60, 0)", x.log(60, 0), Checks.NONE);
        Checks.due("rule(8), more than the log holds", x.rule(8), 150);
        Checks.due("rule(10), more than the log holds", x.rule(10), 75);
        Checks.due("rule(15), more than the log holds", x.rule(15), 75);
        Checks.due("rule(16), more than the log holds", x.rule(16), 75);
    }

    private static void noRule() {
        Checks.of(6, "BAD.");
        Checks.badBeside("rule of a new object", 0, 17, new WaryHouses()::rule);
        Checks.badBeside("rule", 0, 17, Scenes.busy()::rule);
    }

    private static void leastAndMostOfHouses() {
        Checks.of(7, "Of a HOUSE: 0 whether it is WARY (1, 0), 1 UP (1, 0), 2 ITEMS in its QUEUE, 3 STRANGERS it knows, 4 of these"
                + " those that PASSED, 5 DOMAINS for which it is LAST.");
        WaryHouses none = Checks.told(2, "house;house wary;");
        Checks.answers("house(0, what), nothing yet", what -> none.house(0, what), 0, 1, 0, 0, 0, 0);
        Checks.answers("house(1, what), nothing yet", what -> none.house(1, what), 1, 1, 0, 0, 0, 0);
        WaryHouses x = Checks.told(6, "house;house wary;domain 1 0;domain 1 1;domain 0 2 1 2;domain 1 9;");
        for (int i = 0; i < 60; i++) {
            x.send(0, i % 9, 0);
        }
        Checks.answers("house(0, what), sixty", what -> x.house(0, what), 0, 1, 60, 0, 0, 1);
        Checks.answers("house(1, what)", what -> x.house(1, what), 1, 1, 0, 0, 0, 4);
        x.tick(1);
        Checks.answers("house(1, what), the most strangers", what -> x.house(1, what), 1, 1, 0, 8, 0, 4);
        WaryHouses passed = Checks.told(3, "house;house wary;domain 1 0;");
        for (int i = 0; i < 8; i++) {
            passed.send(0, i, 0);
        }
        passed.tick(4);
        Checks.answers("house(1, what), all passed", what -> passed.house(1, what), 1, 1, 8, 8, 8, 1);
        passed.set(1, 0);
        Checks.due("house(1, 1), down", passed.house(1, 1), 0);
    }

    private static void noHouse() {
        Checks.of(7, "BAD.");
        WaryHouses one = Checks.told(1, "house;");
        WaryHouses five = Checks.told(5, HOUSES);
        for (int what = 0; what <= 5; what++) {
            int w = what;
            Checks.badBeside("house(h, " + w + ") of one", 0, 0, h -> one.house(h, w));
            Checks.badBeside("house(h, " + w + ") of five", 0, 4, h -> five.house(h, w));
        }
        Checks.badBeside("house(0, what)", 0, 5, what -> one.house(0, what));
        Checks.badBeside("house(4, what)", 0, 5, what -> five.house(4, what));
    }

    private static void noReceiver() {
        Checks.of(8, "BAD: d, i below 0, what;");
        WaryHouses one = Checks.told(2, "house;domain 0 0;");
        Checks.badBeside("receiver(d, 0, 0) of one", 0, 0, d -> one.receiver(d, 0, 0));
        WaryHouses four = Checks.told(5, "house;domain 0 0;domain;domain;domain 0 3;");
        Checks.badBeside("receiver(d, 0, 0) of four", 0, 3, d -> four.receiver(d, 0, 0));
        Checks.badBeside("receiver(0, 0, what)", 0, 2, what -> four.receiver(0, 0, what));
        Checks.badBeside("receiver(3, 0, what)", 0, 2, what -> four.receiver(3, 0, what));
        Checks.badBeside("receiver(1, 0, what), not so many either", 0, 2, what -> four.receiver(1, 0, what));
        Checks.badBeside("receiver(0, 3, what), not so many either", 0, 2, what -> four.receiver(0, 3, what));
        Checks.bad("receiver, i below 0", () -> four.receiver(0, -1, 0), () -> four.receiver(0, Integer.MIN_VALUE, 1),
                () -> four.receiver(1, -1, 2), () -> four.receiver(3, -4, 0));
        Checks.bad("receiver of a domain that is not there, i too large", () -> four.receiver(4, 9, 0));
    }

    private static void notSoManyReceivers() {
        Checks.of(8, "Of the i-th RECEIVER (0 on; as told) of a DOMAIN: 0 the HOUSE, 1 its PREFERENCE, 2 whether it is LAST (1, 0).");
        Checks.of(8, "NONE: there are not so many.");
        WaryHouses x = Checks.told(9, HOUSES + "domain;domain 4 9;domain 4 0 0 9;domain 2 3 1 2 0 2;");
        int[][] houses = {{}, {4}, {4, 0}, {2, 1, 0}};
        int[][] preferences = {{}, {9}, {0, 9}, {3, 2, 2}};
        int[][] last = {{}, {1}, {1, 0}, {0, 1, 1}};
        for (int d = 0; d < 4; d++) {
            int of = d;
            Checks.row("receiver(" + d + ", i, 0)", i -> x.receiver(of, i, 0), houses[d]);
            Checks.row("receiver(" + d + ", i, 1)", i -> x.receiver(of, i, 1), preferences[d]);
            Checks.row("receiver(" + d + ", i, 2)", i -> x.receiver(of, i, 2), last[d]);
        }
    }

    private static void kinds() {
        Checks.of(9, "Of an ADDRESS (0 to 31): 0 what it is: 0 UNKNOWN, 1 BOX, 2 ALIAS, 3 LIST;");
        WaryHouses x = Checks.told(6, "domain;domain;box 0 0;alias 0 7 0 0;list 1 0 0 0;box 1 7;");
        Checks.answers("address(a, 0)", a -> x.address(a, 0), 1, 0, 0, 0, 0, 0, 0, 2, 3, 0, 0, 0, 0, 0, 0, 1, 0, 0, 0, 0, 0, 0, 0,
                0, 0, 0, 0, 0, 0, 0, 0, 0);
    }

    private static void boxes() {
        Checks.of(9, "1 of a BOX how many LETTERS it was given, 2 the latest one's number (NONE: none yet), 3 its FROM (NONE: it had"
                + " none, none yet); 1 of a LIST how many it has;");
        WaryHouses x = Checks.told(4, "house;domain 0 0;box 0 0;box 0 7;");
        Checks.answers("address(0, what), none yet", what -> x.address(0, what), 1, 0, Checks.NONE, Checks.NONE);
        for (int i = 0; i < 30; i++) {
            Checks.due("send", x.send(0, 31 - i, 0), i);
            Checks.due("tick", x.tick(1), 1);
            Checks.due("address(0, 1)", x.address(0, 1), i + 1);
            Checks.due("address(0, 2)", x.address(0, 2), i);
            Checks.due("address(0, 3)", x.address(0, 3), 31 - i);
        }
        Checks.answers("address(7, what), none yet", what -> x.address(7, what), 1, 0, Checks.NONE, Checks.NONE);
        x.send(0, 0, 1);
        x.tick(2);
        Checks.answers("address(0, what), a letter of nothing", what -> x.address(0, what), 1, 31, 31, Checks.NONE);
        x.send(0, 0, 0);
        x.tick(1);
        Checks.answers("address(0, what), from address 0", what -> x.address(0, what), 1, 32, 32, 0);
        WaryHouses last = Checks.told(7, "house;domain;domain;domain;domain 0 0;box 3 7;box 3 6;");
        for (int i = 0; i < 20; i++) {
            last.send(0, i, i % 2 == 0 ? 31 : 30);
            last.tick(1);
            int even = i - i % 2;
            Checks.answers("address(31, what)", what -> last.address(31, what), 1, even / 2 + 1, even, even);
        }
        Checks.answers("address(30, what)", what -> last.address(30, what), 1, 10, 19, 19);
        WaryHouses lists = Checks.told(4, "domain;list 0 0 0 0;list 0 1 0 0 0 1 0 2;list 0 2 0 0 0 1 0 2 0 3;");
        Checks.answers("address(a, 1) of lists", a -> lists.address(a, 1), 1, 3, 4);
    }

    private static void elseNone() {
        Checks.of(9, "else NONE.");
        WaryHouses x = Checks.told(4, "domain;alias 0 1 0 1;list 0 2 0 1 0 2 0 0 0 3;box 0 4;");
        for (int what = 1; what <= 3; what++) {
            Checks.due("address(0, " + what + "), unknown", x.address(0, what), Checks.NONE);
            Checks.due("address(31, " + what + "), no domain", x.address(31, what), Checks.NONE);
            Checks.due("address(1, " + what + "), an alias", x.address(1, what), Checks.NONE);
            Checks.due("address(2, " + what + "), a list", x.address(2, what), what == 1 ? 4 : Checks.NONE);
        }
    }

    private static void noAddress() {
        Checks.of(9, "BAD.");
        WaryHouses x = Checks.told(5, "house;domain 0 0;alias 0 1 0 1;list 0 2 0 1;box 0 3;");
        for (int what = 0; what <= 3; what++) {
            int w = what;
            Checks.badBeside("address(a, " + w + ")", 0, 31, a -> x.address(a, w));
            Checks.badBeside("address(" + w + ", what)", 0, 3, wrong -> x.address(w, wrong));
        }
        Checks.badBeside("address(31, what)", 0, 3, what -> x.address(31, what));
    }

    private static void leads() {
        Checks.of(10, "The i-th (0 on) of where an ADDRESS leads: of an ALIAS, a LIST.");
        WaryHouses x = Checks.told(7, "domain;alias 0 0 3 7;alias 0 1 0 0;list 0 2 3 7;list 0 3 0 0 3 7;list 0 4 2 0 1 0 0 7;"
                + "list 0 5 0 5 3 7 0 0 1 1;");
        Checks.row("leads(0, i)", i -> x.leads(0, i), 31);
        Checks.row("leads(1, i)", i -> x.leads(1, i), 0);
        Checks.row("leads(2, i)", i -> x.leads(2, i), 31);
        Checks.row("leads(3, i)", i -> x.leads(3, i), 0, 31);
        Checks.row("leads(4, i)", i -> x.leads(4, i), 16, 8, 7);
        Checks.row("leads(5, i)", i -> x.leads(5, i), 5, 31, 0, 9);
        WaryHouses end = Checks.told(5, "domain;domain;domain;domain;list 3 7 3 7 0 0 3 6 1 1;");
        Checks.row("leads(31, i)", i -> end.leads(31, i), 31, 0, 30, 9);
    }

    private static void leadsOfNone() {
        Checks.of(10, "NONE: there are not so many, others.");
        WaryHouses x = Checks.told(2, "domain;box 0 0;");
        Checks.row("leads(0, i), a box", i -> x.leads(0, i));
        Checks.row("leads(1, i), unknown", i -> x.leads(1, i));
        Checks.row("leads(31, i), no domain", i -> x.leads(31, i));
        WaryHouses none = new WaryHouses();
        Checks.row("leads(0, i), a new object", i -> none.leads(0, i));
    }

    private static void noLeads() {
        Checks.of(10, "BAD: a, i below 0;");
        WaryHouses x = Checks.told(3, "domain;alias 0 0 0 0;list 0 7 0 0 0 1;");
        Checks.badBeside("leads(a, 0)", 0, 31, a -> x.leads(a, 0));
        Checks.badBeside("leads(a, 9)", 0, 31, a -> x.leads(a, 9));
        Checks.bad("leads, i below 0", () -> x.leads(0, -1), () -> x.leads(7, -1), () -> x.leads(7, Integer.MIN_VALUE),
                () -> x.leads(31, -1), () -> x.leads(1, -4));
    }

    private static void reachesItself() {
        Checks.of(11, "The i-th (0 on, by number) of the BOXES at which one comes from an ADDRESS by where it leads, and so on"
                + " (a BOX: itself).");
        WaryHouses x = Checks.told(6, "domain;domain;domain;domain;box 0 0;box 3 7;");
        Checks.row("reaches(0, i)", i -> x.reaches(0, i), 0);
        Checks.row("reaches(31, i)", i -> x.reaches(31, i), 31);
    }

    private static void reachesFar() {
        Checks.of(11, "The i-th (0 on, by number) of the BOXES at which one comes from an ADDRESS by where it leads, and so on"
                + " (a BOX: itself).");
        WaryHouses order = Checks.told(10, "domain;domain;domain;domain;box 3 7;box 0 0;box 1 1;box 0 7;list 0 1 3 7 1 1 0 7 0 0;"
                + "alias 0 2 0 1;");
        Checks.row("reaches(1, i), by number", i -> order.reaches(1, i), 0, 7, 9, 31);
        Checks.row("reaches(2, i), by an alias", i -> order.reaches(2, i), 0, 7, 9, 31);
        WaryHouses ends = Checks.told(7, "domain;domain;domain;domain;list 0 0 3 7 1 1;alias 3 7 0 0;box 1 1;");
        Checks.row("reaches(0, i), from the first", i -> ends.reaches(0, i), 9);
        Checks.row("reaches(31, i), from the last", i -> ends.reaches(31, i), 9);
        WaryHouses twice = Checks.told(6, "domain;box 0 0;alias 0 1 0 0;alias 0 2 0 1;list 0 3 0 0 0 1 0 2 0 4;list 0 4 0 3 0 0;");
        Checks.row("reaches(3, i), one box by many ways", i -> twice.reaches(3, i), 0);
        Checks.row("reaches(4, i), lists of one another", i -> twice.reaches(4, i), 0);
        StringBuilder chain = new StringBuilder("domain;domain;box 0 0;");
        for (int a = 1; a <= 12; a++) {
            chain.append("alias").append(a / 8).append(' ').append(a % 8).append(' ').append((a - 1) / 8).append(' ')
                    .append((a - 1) % 8).append(';');
        }
        WaryHouses far = Checks.told(15, chain.toString());
        Checks.row("reaches(12, i), farther than letters go", i -> far.reaches(12, i), 0);
        WaryHouses most = Checks.told(20, "domain;domain;box0 0;box0 1;box0 2;box0 3;box0 4;box0 5;box0 6;box0 7;box1 0;box1 1;"
                + "box1 2;box1 3;box1 4;list1 5 0 0 0 1 0 2 1 6;list1 6 0 3 0 4 0 5 1 7;list1 7 0 6 0 7 1 0;"
                + "house;house;");
        Checks.row("reaches(13, i), nine of them", i -> most.reaches(13, i), 0, 1, 2, 3, 4, 5, 6, 7, 8);
    }

    private static void reachesNone() {
        Checks.of(11, "NONE: there are not so many.");
        WaryHouses x = Checks.told(5, "domain;alias 0 0 0 0;alias 0 1 3 7;list 0 2 0 2;list 0 3 0 4 1 0 0 1;");
        for (int a = 0; a < 32; a++) {
            int from = a;
            Checks.row("reaches(" + a + ", i)", i -> x.reaches(from, i));
        }
    }

    private static void noReaches() {
        Checks.of(11, "BAD: a, i below 0;");
        WaryHouses x = Checks.told(3, "domain;box 0 0;list 0 7 0 0 0 1;");
        Checks.badBeside("reaches(a, 0)", 0, 31, a -> x.reaches(a, 0));
        Checks.badBeside("reaches(a, 9)", 0, 31, a -> x.reaches(a, 9));
        Checks.bad("reaches, i below 0", () -> x.reaches(0, -1), () -> x.reaches(7, -1), () -> x.reaches(7, Integer.MIN_VALUE),
                () -> x.reaches(31, -1), () -> x.reaches(1, -4));
    }

    private static void asks() {
        Checks.of(17, "The i-th (0 on) of the HOUSES that an ITEM in HOUSE h for a DOMAIN would ask (DOWN ones, too).");
        WaryHouses x = Checks.told(9, HOUSES + "domain;domain 4 9;domain 3 5 1 5 2 0;domain 4 3 0 3 2 3;");
        for (int down = 0; down <= 5; down++) {
            Checks.row("asks(0, 1, i)", i -> x.asks(0, 1, i), 4);
            Checks.row("asks(0, 2, i)", i -> x.asks(0, 2, i), 2, 1, 3);
            Checks.row("asks(4, 2, i)", i -> x.asks(4, 2, i), 2, 1, 3);
            Checks.row("asks(1, 2, i), not the one of the same preference", i -> x.asks(1, 2, i), 2);
            Checks.row("asks(3, 2, i), not the one of the same preference", i -> x.asks(3, 2, i), 2);
            Checks.row("asks(1, 3, i)", i -> x.asks(1, 3, i), 0, 2, 4);
            if (down < 5) {
                x.set(down, 0);
            }
        }
    }

    private static void asksNone() {
        Checks.of(17, "NONE: there are not so many, h is LAST.");
        WaryHouses x = Checks.told(9, HOUSES + "domain;domain 4 9;domain 3 5 1 5 2 0;domain 4 3 0 3 2 3;");
        for (int h = 0; h < 5; h++) {
            int in = h;
            Checks.row("asks(" + h + ", 0, i), no receivers", i -> x.asks(in, 0, i));
        }
        Checks.row("asks(4, 1, i)", i -> x.asks(4, 1, i));
        Checks.row("asks(2, 2, i)", i -> x.asks(2, 2, i));
        Checks.row("asks(0, 3, i)", i -> x.asks(0, 3, i));
        Checks.row("asks(2, 3, i)", i -> x.asks(2, 3, i));
        Checks.row("asks(4, 3, i)", i -> x.asks(4, 3, i));
    }

    private static void noAsks() {
        Checks.of(17, "BAD: h, d, i below 0;");
        WaryHouses x = Checks.told(4, "house;house;domain 1 0;domain;");
        Checks.badBeside("asks(h, 0, 0)", 0, 1, h -> x.asks(h, 0, 0));
        Checks.badBeside("asks(0, d, 0)", 0, 1, d -> x.asks(0, d, 0));
        Checks.badBeside("asks(1, d, 0), not so many either", 0, 1, d -> x.asks(1, d, 9));
        Checks.bad("asks, i below 0", () -> x.asks(0, 0, -1), () -> x.asks(1, 0, -1), () -> x.asks(0, 1, -1),
                () -> x.asks(0, 0, Integer.MIN_VALUE));
        WaryHouses most = Checks.told(9, HOUSES + "domain;domain;domain;domain 4 4;");
        Checks.badBeside("asks(h, 3, 0)", 0, 4, h -> most.asks(h, 3, 0));
        Checks.badBeside("asks(4, d, 0)", 0, 3, d -> most.asks(4, d, 0));
    }
}
