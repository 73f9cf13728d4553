/** Promises 12 to 16 and 19, and of the terms, part 2: letters, items, ticks, the log. */
final class EdgesOfMail {
    private static final String ONE = "house;domain 0 0;box 0 0;";
    private static final String HOUSES = "house;house;house;house;house;";

    private EdgesOfMail() {
    }

    static void check() {
        manyCalls();
        numbersOfLetters();
        itemsOfALetter();
        sixtyItems();
        clock();
        turnsByNumber();
        whatIsDue();
        aheadOfItsTurn();
        behindAll();
        logRows();
        logOfSixty();
        sendFirst();
        sendBeside();
        sendWhenFull();
        tickLeastAndMost();
        tickBeside();
        runTillNone();
        runAtMost();
        runBeside();
        setToWhatItWas();
        setBeside();
        itemOfNothing();
        itemBeside();
        logBeside();
    }

    /** The text is 26 calls. */
    private static void manyCalls() {
        Checks.of(0, "An object is used for at most 512 calls after it has been made; what later calls answer is free.");
        WaryHouses x = Scenes.of(ONE);
        for (int i = 0; i < (512 - 26) / 2; i++) {
            Checks.due("send", x.send(0, 31, 0), i);
            Checks.due("tick", x.tick(20), 1);
        }
        WaryHouses far = Scenes.of(ONE);
        far.set(0, 0);
        far.send(0, 0, 0);
        for (int i = 28; i < 510; i++) {
            Checks.due("run", far.run(60), 60);
        }
        Checks.due("rule(5), the 511th call", far.rule(5), 60 * 482);
        Checks.due("item(0, 0, 5), the 512th call", far.item(0, 0, 5), 1);
    }

    private static void numbersOfLetters() {
        Checks.of(0, "A LETTER has a number (0 on, as they are sent or come back), a FROM (an ADDRESS, or nothing) and goes as one or"
                + " more ITEMS.");
        WaryHouses x = Checks.told(3, ONE);
        Checks.due("send, the first", x.send(0, 0, 5), 0);
        Checks.due("send, the second", x.send(0, 31, 6), 1);
        Checks.due("item(0, 0, 1)", x.item(0, 0, 1), 0);
        Checks.due("item(0, 1, 1)", x.item(0, 1, 1), 31);
        x.tick(1);
        Checks.due("item(0, 0, 0), come back", x.item(0, 0, 0), 2);
        Checks.due("item(0, 0, 1), from nothing", x.item(0, 0, 1), Checks.NONE);
        Checks.due("item(0, 1, 0), come back", x.item(0, 1, 0), 3);
        Checks.due("send, behind those that came back", x.send(0, 0, 0), 4);
        Checks.due("rule(6)", x.rule(6), 5);
        Checks.due("send, refused", x.send(0, 32, 0), Checks.BAD);
        Checks.due("send, no number was lost", x.send(0, 0, 0), 5);
        WaryHouses list = Checks.told(3, "house;domain 0 0;list 0 0 0 1 0 2 0 3 0 4;");
        list.send(0, 7, 0);
        Checks.due("rule(7), one item", list.rule(7), 1);
        list.tick(1);
        Checks.due("rule(7), four of one letter", list.rule(7), 4);
        Checks.due("rule(6)", list.rule(6), 1);
        Checks.answers("item(0, i, 0)", i -> list.item(0, i, 0), 0, 0, 0, 0);
    }

    private static void itemsOfALetter() {
        Checks.of(0, "An ITEM is in THE QUEUE of a HOUSE; it has its LETTER, a TO (an ADDRESS), TRIES, HOPS, DUE (a TICK), MARKS (LISTS"
                + " that were opened on its way).");
        WaryHouses x = Checks.told(8, HOUSES + "domain 0 0;list 0 0 0 1;list 0 1 0 2;");
        x.send(4, 31, 0);
        Checks.item(x, 4, 0, 0, 31, 0, 0, 0, 1, 0);
        x.tick(1);
        Checks.item(x, 0, 0, 0, 31, 0, 0, 1, 2, 0);
        Checks.due("house(4, 2)", x.house(4, 2), 0);
        x.tick(1);
        Checks.item(x, 0, 0, 0, 31, 1, 0, 2, 3, 1);
        x.tick(1);
        Checks.item(x, 0, 0, 0, 31, 2, 0, 3, 4, 2);
        x.tick(1);
        Checks.item(x, 0, 0, 1, Checks.NONE, 31, 0, 0, 5, 0);
    }

    private static void sixtyItems() {
        Checks.of(0, "There may be 60 ITEMS in all.");
        WaryHouses x = Checks.told(7, HOUSES + "domain 0 0;box 0 0;");
        for (int i = 0; i < 60; i++) {
            Checks.due("send of number " + i, x.send(i % 5, 0, 0), i);
        }
        for (int h = 0; h < 5; h++) {
            Checks.due("house(" + h + ", 2)", x.house(h, 2), 12);
            Checks.due("send(" + h + ", 0, 0), the 61st", x.send(h, 0, 0), Checks.FULL);
        }
        Checks.due("rule(7)", x.rule(7), 60);
        Checks.due("tick(1): twelve were there already", x.tick(1), 12);
        Checks.due("rule(7)", x.rule(7), 48);
        for (int i = 0; i < 12; i++) {
            Checks.due("send into the room", x.send(4, 0, 0), 60 + i);
        }
        Checks.due("send, full again", x.send(4, 0, 0), Checks.FULL);
        Checks.due("tick(1)", x.tick(1), 48);
        Checks.due("tick(1)", x.tick(1), 12);
        Checks.due("rule(7)", x.rule(7), 0);
    }

    private static void clock() {
        Checks.of(0, "A TICK: CLOCK is one more; then HOUSES that are UP take their turns, by number:");
        WaryHouses none = new WaryHouses();
        none.tick(1);
        Checks.due("rule(5), no houses", none.rule(5), 1);
        WaryHouses x = Checks.told(3, ONE);
        x.send(0, 0, 0);
        x.set(0, 0);
        Checks.due("tick(1), down", x.tick(1), 0);
        Checks.due("rule(5), down", x.rule(5), 1);
        Checks.item(x, 0, 0, 0, 0, 0, 0, 0, 1, 0);
        x.set(0, 1);
        Checks.due("tick(1), up", x.tick(1), 1);
        Checks.due("rule(5)", x.rule(5), 2);
    }

    private static void turnsByNumber() {
        Checks.of(0, "A TICK: CLOCK is one more; then HOUSES that are UP take their turns, by number:");
        WaryHouses x = Checks.told(6, HOUSES + "domain 2 0;");
        x.send(4, 7, 0);
        x.send(3, 7, 0);
        x.send(1, 7, 0);
        x.send(0, 7, 0);
        x.tick(1);
        Checks.row("item(2, i, 0)", i -> x.item(2, i, 0), 3, 2, 1, 0);
        Checks.answers("log(4 + i, 2)", i -> x.log(4 + i, 2), 3, 2, 1, 0);
    }

    private static void whatIsDue() {
        Checks.of(0, "of those ITEMS that are in its QUEUE ahead of its turn each that is DUE (DUE is CLOCK or less), by order, is"
                + " HANDLED.");
        WaryHouses x = Checks.told(4, "house;house;domain 1 0;box 0 0;");
        x.set(1, 0);
        x.send(0, 9, 0);
        x.tick(2);
        Checks.due("item(0, 0, 5)", x.item(0, 0, 5), 4);
        x.tick(1);
        Checks.due("item(0, 0, 3), due one later: not handled", x.item(0, 0, 3), 2);
        x.tick(1);
        Checks.due("item(0, 0, 3), due now: handled", x.item(0, 0, 3), 3);
        x.set(0, 0);
        x.tick(20);
        x.set(0, 1);
        x.set(1, 1);
        x.tick(1);
        Checks.due("house(1, 2), due long ago: handled", x.house(1, 2), 1);
        WaryHouses order = Checks.told(3, ONE);
        for (int i = 0; i < 5; i++) {
            order.send(0, i, 0);
        }
        order.tick(1);
        Checks.answers("log(5 + i, 2), by order", i -> order.log(5 + i, 2), 0, 1, 2, 3, 4);
        Checks.due("address(0, 2), the last", order.address(0, 2), 4);
    }

    private static void aheadOfItsTurn() {
        Checks.of(0, "of those ITEMS that are in its QUEUE ahead of its turn each that is DUE (DUE is CLOCK or less), by order, is"
                + " HANDLED.");
        WaryHouses x = Checks.told(5, "house;house;house;domain 2 0 1 1;box 0 0;");
        x.set(2, 0);
        x.send(0, 9, 0);
        x.tick(1);
        Checks.item(x, 1, 0, 0, 9, 0, 0, 1, 2, 0);
        x.set(2, 1);
        x.tick(1);
        Checks.item(x, 2, 0, 0, 9, 0, 0, 2, 3, 0);
        Checks.due("rule(9)", x.rule(9), 2);
        Checks.due("tick(1)", x.tick(1), 1);
    }

    /** From the house ahead, of the house itself, from the house behind; and what stays keeps its place. */
    private static void behindAll() {
        Checks.of(0, "What comes to a QUEUE comes behind all in it (to that of the HOUSE itself: behind its turn); it is DUE one TICK"
                + " later.");
        WaryHouses x = Checks.told(5, "house;house;house;domain 1 0;alias 0 0 0 7;");
        x.send(1, 5, 1);
        x.send(1, 6, 0);
        x.send(2, 7, 0);
        x.send(0, 8, 0);
        x.tick(1);
        Checks.row("item(1, i, 0)", i -> x.item(1, i, 0), 1, 3, 4, 2);
        Checks.answers("item(1, i, 5)", i -> x.item(1, i, 5), 2, 2, 2, 2);
        WaryHouses own = Checks.told(4, "house;domain 0 0;alias 0 0 0 7;list 0 1 0 3 0 4;");
        own.send(0, 5, 1);
        own.send(0, 5, 6);
        own.send(0, 5, 0);
        own.tick(1);
        Checks.row("item(0, i, 2), behind its turn", i -> own.item(0, i, 2), 7, 3, 4, 5);
        Checks.answers("item(0, i, 5)", i -> own.item(0, i, 5), 2, 2, 2, 2);
    }

    private static void logRows() {
        Checks.of(0, "0 SENT, 1 it went to another HOUSE, 2 GIVEN, 3 DOUBLE, 4 by an ALIAS, 5 OPENED, 6 a TRY more (not the 5th), 7"
                + " BOUNCED, 8 DEAD; with CLOCK, LETTER, HOUSE (1: where it went), TO (as it was ahead of that).");
        WaryHouses x = Scenes.busy();
        int[][] want = {{0, 0, 0, 0, 2}, {0, 0, 1, 0, 5}, {5, 1, 0, 0, 2}, {7, 1, 1, 0, 5}, {2, 2, 0, 0, 0}, {4, 2, 0, 0, 1},
            {6, 2, 0, 0, 8}, {8, 2, 2, 0, 7}, {3, 3, 0, 0, 0}, {6, 3, 0, 0, 8}, {1, 5, 0, 1, 8}, {2, 6, 0, 1, 8}, {0, 7, 3, 0, 8},
            {0, 7, 4, 0, 0}, {6, 8, 3, 0, 8}, {2, 8, 4, 0, 0}, {0, 8, 5, 1, 0}};
        for (int i = 0; i < want.length; i++) {
            Checks.log(x, i, want[i]);
        }
        Checks.due("log behind all", x.log(want.length, 0), Checks.NONE);
    }

    private static void logOfSixty() {
        Checks.of(0, "THE LOG: what was done to ITEMS, the latest 60, by order:");
        WaryHouses x = Checks.told(2, "house;domain 0 0;");
        for (int i = 0; i < 59; i++) {
            x.send(0, 0, i % 32);
        }
        Checks.due("log(58, 2), 59 of them", x.log(58, 2), 58);
        Checks.due("log(59, 2), 59 of them", x.log(59, 2), Checks.NONE);
        x.send(0, 0, 30);
        Checks.due("log(0, 2), 60 of them", x.log(0, 2), 0);
        Checks.due("log(59, 2), 60 of them", x.log(59, 2), 59);
        Checks.due("log(60, 2), 60 of them", x.log(60, 2), Checks.NONE);
        Checks.due("send, refused", x.send(0, 0, 0), Checks.FULL);
        Checks.due("log(0, 2), nothing is told of what is refused", x.log(0, 2), 0);
        WaryHouses more = Checks.told(3, ONE);
        for (int i = 0; i < 60; i++) {
            more.send(0, 0, 0);
        }
        more.set(0, 0);
        more.set(0, 1);
        more.tick(1);
        for (int i = 0; i < 60; i++) {
            Checks.due("log(" + i + ", 0), the first 60 gone", more.log(i, 0), 2);
            Checks.due("log(" + i + ", 2)", more.log(i, 2), i);
        }
        for (int i = 0; i < 61; i++) {
            Checks.due("log(0, 2) ahead of the next", more.log(0, 2), i < 60 ? i : 60);
            if (i < 60) {
                more.send(0, 0, 0);
                Checks.due("log(59, 2)", more.log(59, 2), 60 + i);
            }
        }
        Checks.due("log(60, 2)", more.log(60, 2), Checks.NONE);
    }

    private static void sendFirst() {
        Checks.of(12, "A LETTER is sent: an ITEM in THE QUEUE of a HOUSE, DUE one TICK later: its number.");
        WaryHouses x = Checks.told(5, HOUSES);
        Checks.due("send(0, 0, 0)", x.send(0, 0, 0), 0);
        Checks.due("send(4, 31, 31)", x.send(4, 31, 31), 1);
        Checks.item(x, 0, 0, 0, 0, 0, 0, 0, 1, 0);
        Checks.item(x, 4, 0, 1, 31, 31, 0, 0, 1, 0);
        x.tick(20);
        x.send(3, 5, 31);
        Checks.due("item(3, 0, 5)", x.item(3, 0, 5), 21);
    }

    private static void sendBeside() {
        Checks.of(12, "BAD: h; from, to that are no ADDRESSES (0 to 31; they may be UNKNOWN);");
        WaryHouses x = Checks.told(5, HOUSES);
        Checks.badBeside("send(h, 0, 0)", 0, 4, h -> x.send(h, 0, 0));
        Checks.badBeside("send(0, from, 0)", 0, 31, from -> x.send(0, from, 0));
        Checks.badBeside("send(4, 0, to)", 0, 31, to -> x.send(4, 0, to));
        Checks.due("send(0, NONE, 0)", x.send(0, Checks.NONE, 0), Checks.BAD);
        Checks.due("rule(6)", x.rule(6), 0);
        Checks.due("rule(7)", x.rule(7), 0);
        Checks.due("log(0, 0)", x.log(0, 0), Checks.NONE);
        WaryHouses one = Checks.told(1, "house;");
        Checks.badBeside("send(h, 0, 0) of one", 0, 0, h -> one.send(h, 0, 0));
        for (int a = 0; a < 32; a++) {
            Checks.due("send(0, unknown, unknown)", one.send(0, a, 31 - a), a);
        }
    }

    private static void sendWhenFull() {
        Checks.of(12, "FULL: there are 60 ITEMS.");
        WaryHouses x = Scenes.full();
        Checks.due("send, the 61st", x.send(0, 0, 0), Checks.FULL);
        Checks.due("send into the other house", x.send(1, 0, 0), Checks.FULL);
        Checks.due("send, BAD first", x.send(2, 0, 0), Checks.BAD);
        Checks.due("send, BAD first", x.send(0, 32, 0), Checks.BAD);
        Checks.due("send, BAD first", x.send(0, 0, -1), Checks.BAD);
        Checks.due("rule(6)", x.rule(6), 60);
        Checks.due("rule(8)", x.rule(8), 60);
        x.tick(1);
        Checks.due("send, there is room", x.send(0, 0, 0), 60);
    }

    private static void tickLeastAndMost() {
        Checks.of(13, "n (1 to 20) TICKS: how many ITEMS were GIVEN.");
        WaryHouses x = Checks.told(4, ONE + "box 0 1;");
        Checks.due("tick(1) of none", x.tick(1), 0);
        Checks.due("rule(5)", x.rule(5), 1);
        Checks.due("tick(20) of none", x.tick(20), 0);
        Checks.due("rule(5)", x.rule(5), 21);
        for (int i = 0; i < 60; i++) {
            x.send(0, 0, i % 3);
        }
        Checks.due("tick(1): not what bounced", x.tick(1), 40);
        Checks.due("tick(20): what came back", x.tick(20), 20);
        Checks.due("tick(20)", x.tick(20), 0);
        Checks.due("rule(5)", x.rule(5), 62);
        WaryHouses list = Checks.told(5, "house;domain 0 0;box 0 0;alias 0 1 0 0;list 0 2 0 0 0 1;");
        list.send(0, 3, 2);
        Checks.due("tick(20): not a double", list.tick(20), 1);
        Checks.due("rule(11)", list.rule(11), 1);
    }

    private static void tickBeside() {
        Checks.of(13, "BAD.");
        WaryHouses x = Checks.told(3, ONE);
        x.send(0, 0, 0);
        Checks.badBeside("tick", 1, 20, x::tick);
        Checks.due("rule(5)", x.rule(5), 0);
        Checks.due("rule(7)", x.rule(7), 1);
        Checks.badBeside("tick of a new object", 1, 20, new WaryHouses()::tick);
    }

    private static void runTillNone() {
        Checks.of(14, "TICKS till there are no ITEMS,");
        WaryHouses none = new WaryHouses();
        Checks.due("run(1) of a new object", none.run(1), 0);
        Checks.due("run(60) of a new object", none.run(60), 0);
        Checks.due("rule(5)", none.rule(5), 0);
        WaryHouses x = Checks.told(5, ONE + "alias 0 1 0 0;alias 0 2 0 1;");
        Checks.due("run(60) of none", x.run(60), 0);
        x.send(0, 0, 0);
        Checks.due("run(60)", x.run(60), 1);
        x.send(0, 0, 2);
        Checks.due("run(60)", x.run(60), 3);
        x.send(0, 0, 2);
        Checks.due("run(3), just so many", x.run(3), 3);
        Checks.due("rule(5)", x.rule(5), 7);
        Checks.due("run(1) of none", x.run(1), 0);
    }

    private static void runAtMost() {
        Checks.of(14, "n (1 to 60) at most: how many there were.");
        WaryHouses x = Checks.told(3, ONE);
        x.send(0, 0, 0);
        x.set(0, 0);
        Checks.due("run(1)", x.run(1), 1);
        Checks.due("rule(5)", x.rule(5), 1);
        Checks.due("run(60)", x.run(60), 60);
        Checks.due("rule(5)", x.rule(5), 61);
        Checks.due("run(59)", x.run(59), 59);
        Checks.due("rule(7)", x.rule(7), 1);
        WaryHouses last = Checks.told(4, ONE + "alias 0 1 0 0;");
        last.send(0, 0, 1);
        Checks.due("run(1), one too few", last.run(1), 1);
        Checks.due("rule(7)", last.rule(7), 1);
        Checks.due("run(1)", last.run(1), 1);
        Checks.due("rule(7)", last.rule(7), 0);
    }

    private static void runBeside() {
        Checks.of(14, "BAD.");
        WaryHouses x = Checks.told(3, ONE);
        x.send(0, 0, 0);
        Checks.badBeside("run", 1, 60, x::run);
        Checks.due("rule(5)", x.rule(5), 0);
        Checks.due("rule(7)", x.rule(7), 1);
        Checks.badBeside("run of a new object", 1, 60, new WaryHouses()::run);
    }

    private static void setToWhatItWas() {
        Checks.of(15, "A HOUSE becomes UP (1), DOWN (0): what it was.");
        WaryHouses x = Checks.told(5, HOUSES);
        Checks.due("set(0, 1), up already", x.set(0, 1), 1);
        Checks.due("set(4, 0)", x.set(4, 0), 1);
        Checks.due("set(4, 0), down already", x.set(4, 0), 0);
        Checks.answers("house(h, 1)", h -> x.house(h, 1), 1, 1, 1, 1, 0);
        Checks.due("set(4, 1)", x.set(4, 1), 0);
        Checks.due("house(4, 1)", x.house(4, 1), 1);
        for (int h = 0; h < 5; h++) {
            x.set(h, 0);
        }
        Checks.answers("house(h, 1)", h -> x.house(h, 1), 0, 0, 0, 0, 0);
    }

    private static void setBeside() {
        Checks.of(15, "BAD.");
        WaryHouses one = Checks.told(1, "house;");
        Checks.badBeside("set(h, 0) of one", 0, 0, h -> one.set(h, 0));
        Checks.badBeside("set(0, up)", 0, 1, up -> one.set(0, up));
        Checks.due("house(0, 1)", one.house(0, 1), 1);
        WaryHouses five = Checks.told(5, HOUSES);
        Checks.badBeside("set(h, 1) of five", 0, 4, h -> five.set(h, 1));
        Checks.badBeside("set(4, up)", 0, 1, up -> five.set(4, up));
    }

    private static void itemOfNothing() {
        Checks.of(16, "Of the i-th ITEM (0 on) in THE QUEUE of a HOUSE: 0 its LETTER, 1 FROM (NONE: nothing), 2 TO, 3 TRIES, 4 HOPS, 5"
                + " DUE, 6 MARKS: how many.");
        Checks.of(16, "NONE: there are not so many.");
        WaryHouses x = Checks.told(3, "house;house;domain 0 0;");
        for (int what = 0; what <= 6; what++) {
            int w = what;
            Checks.row("item(0, i, " + what + ") of none", i -> x.item(0, i, w));
        }
        x.send(0, 3, 1);
        x.send(1, 4, 2);
        Checks.row("item(0, i, 1)", i -> x.item(0, i, 1), 3);
        Checks.row("item(1, i, 1)", i -> x.item(1, i, 1), 4);
        x.tick(1);
        Checks.item(x, 0, 0, 2, Checks.NONE, 3, 0, 0, 2, 0);
        Checks.item(x, 0, 1, 1, 4, 2, 0, 1, 2, 0);
        Checks.row("item(0, i, 0)", i -> x.item(0, i, 0), 2, 1);
        Checks.row("item(1, i, 0)", i -> x.item(1, i, 0));
        WaryHouses full = Checks.told(1, "house;");
        for (int i = 0; i < 60; i++) {
            full.send(0, 0, 0);
        }
        Checks.due("item(0, 59, 0)", full.item(0, 59, 0), 59);
        Checks.due("item(0, 60, 0)", full.item(0, 60, 0), Checks.NONE);
    }

    private static void itemBeside() {
        Checks.of(16, "BAD: h, i below 0, what;");
        WaryHouses x = Checks.told(2, "house;house;");
        x.send(0, 0, 0);
        Checks.badBeside("item(h, 0, 0)", 0, 1, h -> x.item(h, 0, 0));
        Checks.badBeside("item(0, 0, what)", 0, 6, what -> x.item(0, 0, what));
        Checks.badBeside("item(1, 0, what), not so many either", 0, 6, what -> x.item(1, 0, what));
        Checks.bad("item, i below 0", () -> x.item(0, -1, 0), () -> x.item(1, -1, 6), () -> x.item(0, Integer.MIN_VALUE, 0));
        Checks.bad("item, no house, i too large", () -> x.item(2, 9, 0));
        WaryHouses five = Checks.told(5, HOUSES);
        five.send(4, 0, 0);
        Checks.due("item(4, 0, 0)", five.item(4, 0, 0), 0);
        Checks.badBeside("item(h, 0, 0) of five", 0, 4, h -> five.item(h, 0, 0));
    }

    private static void logBeside() {
        Checks.of(19, "Of the i-th of THE LOG (0 on): 0 what was done, 1 CLOCK, 2 LETTER, 3 HOUSE, 4 TO.");
        WaryHouses x = Checks.told(5, HOUSES);
        x.tick(3);
        x.send(4, 0, 31);
        Checks.log(x, 0, 0, 3, 0, 4, 31);
        Checks.of(19, "NONE: there are not so many.");
        for (int what = 0; what <= 4; what++) {
            int w = what;
            Checks.due("log(1, " + what + ")", x.log(1, w), Checks.NONE);
            Checks.row("log(i, " + what + ") of a new object", i -> new WaryHouses().log(i, w));
        }
        Checks.of(19, "BAD: i below 0, what;");
        Checks.badBeside("log(0, what)", 0, 4, what -> x.log(0, what));
        Checks.badBeside("log(1, what), not so many either", 0, 4, what -> x.log(1, what));
        Checks.bad("log, i below 0", () -> x.log(-1, 0), () -> x.log(Integer.MIN_VALUE, 4), () -> new WaryHouses().log(-1, 0));
    }
}
