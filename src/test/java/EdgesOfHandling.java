/** The terms, part 2: how an item is handled in a house, and what bounces. */
final class EdgesOfHandling {
    private static final int NONE = Checks.NONE;

    private EdgesOfHandling() {
    }

    static void check() {
        eightHopsByAliases();
        eightHopsByHouses();
        eightHopsByLists();
        eightHopsOfNothing();
        noReceivers();
        firstThatFits();
        latestEight();
        latestEightOfThisBox();
        doubleIsNotGiven();
        aliasStays();
        listOfNothing();
        moreThanSixty();
        justSixty();
        roomOfTheSameTurn();
        markedCountNot();
        openedByOrder();
        openedToNone();
        marksOnTheWay();
        unknown();
        asksByPreference();
        asksThoseOfLess();
        takenByTheFirst();
        fiveTries();
        noneOfThreeTakesIt();
        triesBeginAnew();
        bouncesOfNothing();
        bounceIsALetter();
    }

    private static void eightHopsByAliases() {
        Checks.of(0, "1 HOPS are 8: it BOUNCES.");
        WaryHouses x = Checks.told(12, "house;domain 0 0;domain 0 0;box 1 0;alias 0 0 1 0;alias 0 1 0 0;alias 0 2 0 1;alias 0 3 0 2;"
                + "alias 0 4 0 3;alias 0 5 0 4;alias 0 6 0 5;alias 0 7 0 6;");
        x.send(0, 9, 6);
        x.tick(7);
        Checks.item(x, 0, 0, 0, 9, 8, 0, 7, 8, 0);
        Checks.due("tick(1), seven hops: given", x.tick(1), 1);
        x.send(0, 9, 7);
        x.tick(8);
        Checks.item(x, 0, 0, 1, 9, 8, 0, 8, 17, 0);
        Checks.due("tick(1), eight hops: not given", x.tick(1), 0);
        Checks.due("rule(15)", x.rule(15), 1);
        Checks.item(x, 0, 0, 2, NONE, 9, 0, 0, 18, 0);
        Checks.due("rule(12)", x.rule(12), 15);
    }

    /** Two domains whose aliases lead to one another: a hop to the other house, a hop by the alias, and so on. */
    private static void eightHopsByHouses() {
        Checks.of(0, "1 HOPS are 8: it BOUNCES.");
        WaryHouses x = Checks.told(6, "house;house;domain 0 0;domain 1 0;alias 0 0 1 0;alias 1 0 0 0;");
        x.send(0, 5, 0);
        x.tick(8);
        Checks.item(x, 0, 0, 0, 5, 0, 0, 8, 9, 0);
        Checks.due("rule(9)", x.rule(9), 4);
        Checks.due("rule(12)", x.rule(12), 4);
        x.tick(1);
        Checks.log(x, 9, 7, 9, 0, 0, 0);
        Checks.due("rule(12), no more", x.rule(12), 4);
    }

    private static void eightHopsByLists() {
        Checks.of(0, "1 HOPS are 8: it BOUNCES.");
        WaryHouses x = Checks.told(10, "house;domain 0 0;list 0 0 0 1;list 0 1 0 2;list 0 2 0 3;list 0 3 0 4;list 0 4 0 5;list 0 5 0 6;"
                + "list 0 6 0 7;list 0 7 1 0;");
        x.send(0, 31, 0);
        x.tick(7);
        Checks.item(x, 0, 0, 0, 31, 7, 0, 7, 8, 7);
        x.tick(1);
        Checks.item(x, 0, 0, 0, 31, 8, 0, 8, 9, 8);
        Checks.due("rule(13)", x.rule(13), 8);
        x.tick(1);
        Checks.due("rule(15)", x.rule(15), 1);
    }

    private static void eightHopsOfNothing() {
        Checks.of(0, "1 HOPS are 8: it BOUNCES.");
        WaryHouses x = Checks.told(3, "house;domain 0 0;alias 0 0 0 0;");
        x.send(0, 0, 1);
        x.tick(9);
        Checks.item(x, 0, 0, 1, NONE, 0, 0, 8, 10, 0);
        x.tick(1);
        Checks.due("rule(16)", x.rule(16), 1);
        Checks.due("rule(15)", x.rule(15), 1);
        Checks.due("rule(7)", x.rule(7), 0);
    }

    private static void noReceivers() {
        Checks.of(0, "2 the DOMAIN of TO has no RECEIVERS, or there is none: it BOUNCES.");
        WaryHouses x = Checks.told(5, "house;domain 0 0;domain;box 1 0;domain;");
        int[] tos = {8, 9, 16, 24, 31};
        for (int i = 0; i < tos.length; i++) {
            x.send(0, 5, tos[i]);
        }
        Checks.due("tick(1)", x.tick(1), 0);
        Checks.due("rule(15)", x.rule(15), 5);
        Checks.due("rule(14)", x.rule(14), 0);
        for (int i = 0; i < tos.length; i++) {
            Checks.log(x, 5 + i, 7, 1, i, 0, tos[i]);
            Checks.item(x, 0, i, 5 + i, NONE, 5, 0, 0, 2, 0);
        }
        WaryHouses none = Checks.told(1, "house;");
        none.send(0, 0, 0);
        none.tick(1);
        Checks.due("rule(15), no domains", none.rule(15), 1);
        none.tick(1);
        Checks.due("rule(16), no domains", none.rule(16), 1);
    }

    private static void firstThatFits() {
        Checks.of(0, "HANDLED in a HOUSE, the first that fits (behind it the ITEM goes, or stays where it is):");
        WaryHouses hops = Checks.told(4, "house;domain 0 0;alias 0 0 0 0;list 0 1 0 2;");
        hops.send(0, 1, 0);
        hops.tick(8);
        hops.send(0, 5, 6);
        hops.tick(1);
        Checks.due("rule(15), eight hops at the house that is last", hops.rule(15), 2);
        hops.tick(1);
        Checks.due("rule(16), nothing opens a list, an unknown one is dead", hops.rule(16), 2);
        Checks.due("rule(13)", hops.rule(13), 0);
        WaryHouses stays = Checks.told(4, "house;house;domain 1 0;domain 0 0;");
        stays.set(1, 0);
        stays.send(0, 8, 0);
        stays.send(0, 8, 9);
        stays.send(0, 8, 1);
        stays.tick(1);
        Checks.row("item(0, i, 0), what stays keeps its place", i -> stays.item(0, i, 0), 0, 2, 3);
    }

    private static void latestEight() {
        Checks.of(0, "3 the HOUSE is LAST for it: TO is a BOX: it is GIVEN, but if its LETTER is among the latest 8 that this BOX was"
                + " given: it is a DOUBLE; it goes.");
        for (int others = 0; others <= 10; others++) {
            WaryHouses x = lateDouble();
            for (int i = 0; i < others; i++) {
                x.send(0, 6, 0);
            }
            x.tick(1);
            x.set(1, 1);
            x.run(60);
            boolean twice = others < 8;
            Checks.due("rule(11) behind " + others + " others", x.rule(11), twice ? 1 : 0);
            Checks.due("address(0, 1) behind " + others, x.address(0, 1), others + (twice ? 1 : 2));
            Checks.due("address(0, 2) behind " + others, x.address(0, 2), twice ? others : 0);
            Checks.due("rule(7)", x.rule(7), 0);
        }
    }

    /** Letter 0 was given to box 0 at tick 2; another item of it waits in house 0 for house 1, which is DOWN, till tick 5. */
    private static WaryHouses lateDouble() {
        WaryHouses x = Checks.told(8, "house;house;domain 0 0;domain 1 0;box 0 0;alias 1 0 0 0;list 0 1 0 0 1 0;box 0 2;");
        x.set(1, 0);
        x.send(0, 5, 1);
        Checks.due("tick(2)", x.tick(2), 1);
        return x;
    }

    private static void latestEightOfThisBox() {
        Checks.of(0, "3 the HOUSE is LAST for it: TO is a BOX: it is GIVEN, but if its LETTER is among the latest 8 that this BOX was"
                + " given: it is a DOUBLE; it goes.");
        WaryHouses x = lateDouble();
        for (int i = 0; i < 20; i++) {
            x.send(0, 6, i < 7 ? 0 : 2);
        }
        Checks.due("tick(1)", x.tick(1), 20);
        x.set(1, 1);
        x.run(60);
        Checks.due("rule(11)", x.rule(11), 1);
        Checks.due("address(0, 1)", x.address(0, 1), 8);
        Checks.due("address(2, 1)", x.address(2, 1), 13);
        WaryHouses far = Checks.told(8, "house;domain;domain;domain;domain 0 0;box 3 7;alias 3 1 3 7;list 3 0 3 7 3 1;");
        far.send(0, 9, 26);
        far.send(0, 9, 24);
        Checks.due("tick(3), the last box", far.tick(3), 1);
        Checks.due("rule(11), the last box", far.rule(11), 1);
        Checks.due("address(31, 2)", far.address(31, 2), 1);
        WaryHouses both = Checks.told(5, "house;domain 0 0;box 0 0;box 0 1;list 0 2 0 0 0 1;");
        both.send(0, 5, 2);
        Checks.due("tick(2): one letter, two boxes", both.tick(2), 2);
        Checks.due("rule(11)", both.rule(11), 0);
    }

    /** Given, seven others, DOUBLE, one other: it is not among the latest 8 then. */
    private static void doubleIsNotGiven() {
        Checks.of(0, "3 the HOUSE is LAST for it: TO is a BOX: it is GIVEN, but if its LETTER is among the latest 8 that this BOX was"
                + " given: it is a DOUBLE; it goes.");
        WaryHouses x = Checks.told(10, "house;house;house;domain 0 0;domain 1 0;domain 2 0;box 0 0;alias 1 0 0 0;alias 2 0 0 0;"
                + "list 0 1 0 0 1 0 2 0;");
        x.set(1, 0);
        x.set(2, 0);
        x.send(0, 5, 1);
        Checks.due("tick(2)", x.tick(2), 1);
        for (int i = 0; i < 7; i++) {
            x.send(0, 6, 0);
        }
        Checks.due("tick(1)", x.tick(1), 7);
        x.set(1, 1);
        Checks.due("tick(5)", x.tick(5), 0);
        Checks.due("rule(11)", x.rule(11), 1);
        Checks.due("address(0, 1), a double is not counted", x.address(0, 1), 8);
        Checks.due("address(0, 2)", x.address(0, 2), 7);
        Checks.due("address(0, 3)", x.address(0, 3), 6);
        x.send(0, 6, 0);
        x.set(2, 1);
        Checks.due("tick(1)", x.tick(1), 1);
        Checks.due("tick(3): given again", x.tick(3), 1);
        Checks.due("rule(11)", x.rule(11), 1);
        Checks.due("address(0, 2)", x.address(0, 2), 0);
        Checks.due("address(0, 3)", x.address(0, 3), 5);
    }

    private static void aliasStays() {
        Checks.of(0, "TO is an ALIAS: TO becomes where that leads, one HOP more, no TRIES, DUE one TICK later, it stays.");
        WaryHouses x = Checks.told(5, "house;domain 0 0;alias 0 0 3 7;alias 0 1 0 1;list 0 2 0 0;");
        x.send(0, 9, 0);
        x.send(0, 9, 1);
        x.send(0, 9, 2);
        x.tick(1);
        Checks.item(x, 0, 0, 0, 9, 31, 0, 1, 2, 0);
        Checks.item(x, 0, 1, 1, 9, 1, 0, 1, 2, 0);
        Checks.item(x, 0, 2, 2, 9, 0, 0, 1, 2, 1);
        x.tick(1);
        Checks.item(x, 0, 0, 1, 9, 1, 0, 2, 3, 0);
        Checks.item(x, 0, 1, 2, 9, 31, 0, 2, 3, 1);
        Checks.due("rule(12)", x.rule(12), 4);
    }

    private static void listOfNothing() {
        Checks.of(0, "TO is a LIST: FROM is nothing: it is DEAD, it goes;");
        WaryHouses x = Checks.told(4, "house;domain 0 0;box 0 0;list 0 1 0 0;");
        x.send(0, 1, 5);
        Checks.due("tick(2)", x.tick(2), 0);
        Checks.due("rule(16)", x.rule(16), 1);
        Checks.due("rule(15)", x.rule(15), 1);
        Checks.due("rule(13)", x.rule(13), 0);
        Checks.due("rule(7)", x.rule(7), 0);
        Checks.due("rule(6)", x.rule(6), 2);
        Checks.log(x, 2, 8, 2, 1, 0, 1);
        Checks.due("log(3, 0)", x.log(3, 0), NONE);
        WaryHouses full = waiting(59, "list 0 1 0 0 0 2 0 3 0 4;");
        full.send(0, 1, 5);
        full.tick(2);
        Checks.due("rule(16), there is no room either", full.rule(16), 1);
        Checks.due("rule(7)", full.rule(7), 59);
    }

    /** So many items in house 1, which is DOWN; house 0 is last for domain 0, which has a box and the lines told. */
    private static WaryHouses waiting(int items, String lines) {
        String text = "house;house;domain 0 0;box 0 0;" + lines;
        WaryHouses x = Checks.told(text.length() - text.replace(";", "").length(), text);
        x.set(1, 0);
        for (int i = 0; i < items; i++) {
            x.send(1, 0, 0);
        }
        return x;
    }

    private static void moreThanSixty() {
        Checks.of(0, "if there were more than 60 ITEMS behind it (it gone): DUE one TICK later, it stays;");
        WaryHouses x = waiting(57, "list 0 1 0 2 0 3 0 4 0 5;");
        x.send(0, 7, 1);
        int letter = 57;
        for (int i = 1; i <= 3; i++) {
            x.tick(1);
            Checks.item(x, 0, 0, letter, 7, 1, 0, 0, i + 1, 0);
            Checks.due("rule(7), 57 and four were 61", x.rule(7), 58);
            Checks.due("rule(13)", x.rule(13), 0);
            Checks.due("rule(17)", x.rule(17), 0);
            Checks.due("rule(14)", x.rule(14), 0);
            Checks.due("log(58, 0): nothing is told of it", x.log(58, 0), NONE);
        }
        x.set(1, 1);
        x.tick(1);
        Checks.due("rule(13), the house ahead has its turn first", x.rule(13), 0);
        x.tick(1);
        Checks.due("rule(13), no room yet when its turn comes", x.rule(13), 0);
        x.tick(1);
        Checks.due("rule(13), there is room", x.rule(13), 1);
        WaryHouses full = waiting(59, "list 0 1 0 2 0 3;");
        full.send(0, 7, 1);
        full.tick(1);
        Checks.due("rule(13), 59 and two were 61", full.rule(13), 0);
        Checks.due("rule(7)", full.rule(7), 60);
        full.tick(1);
        Checks.item(full, 0, 0, 59, 7, 1, 0, 0, 3, 0);
    }

    private static void justSixty() {
        Checks.of(0, "if there were more than 60 ITEMS behind it (it gone): DUE one TICK later, it stays;");
        WaryHouses four = waiting(56, "list 0 1 0 2 0 3 0 4 0 5;");
        four.send(0, 7, 1);
        four.tick(1);
        Checks.due("rule(13), 56 and four are 60", four.rule(13), 1);
        Checks.due("rule(7)", four.rule(7), 60);
        Checks.due("rule(17)", four.rule(17), 4);
        Checks.due("send, full", four.send(0, 0, 0), Checks.FULL);
        four.tick(1);
        Checks.due("rule(15), they go on", four.rule(15), 4);
        Checks.due("rule(7)", four.rule(7), 60);
        WaryHouses one = waiting(59, "list 0 1 0 2;");
        one.send(0, 7, 1);
        one.tick(1);
        Checks.due("rule(13), 59 and one are 60", one.rule(13), 1);
        Checks.due("rule(7)", one.rule(7), 60);
    }

    /** What came in the same turn is there; what went in it is not. */
    private static void roomOfTheSameTurn() {
        Checks.of(0, "if there were more than 60 ITEMS behind it (it gone): DUE one TICK later, it stays;");
        WaryHouses x = waiting(55, "list 0 1 0 0 0 3 0 4 0 5;");
        x.send(0, 7, 1);
        x.send(0, 7, 1);
        x.tick(1);
        Checks.due("rule(13), the first alone", x.rule(13), 1);
        Checks.due("rule(7)", x.rule(7), 60);
        Checks.item(x, 0, 0, 56, 7, 1, 0, 0, 2, 0);
        WaryHouses went = waiting(56, "list 0 1 0 0 0 3 0 4 0 5;");
        went.send(0, 7, 0);
        went.send(0, 7, 1);
        Checks.due("tick(1)", went.tick(1), 1);
        Checks.due("rule(13), one was given ahead of it", went.rule(13), 1);
        Checks.due("rule(7)", went.rule(7), 60);
        WaryHouses behind = waiting(56, "list 0 1 0 0 0 3 0 4 0 5;");
        behind.send(0, 7, 1);
        behind.send(0, 7, 0);
        Checks.due("tick(1)", behind.tick(1), 1);
        Checks.due("rule(13), one was given behind it", behind.rule(13), 0);
        Checks.due("rule(7)", behind.rule(7), 57);
    }

    private static void markedCountNot() {
        Checks.of(0, "if there were more than 60 ITEMS behind it (it gone): DUE one TICK later, it stays;");
        WaryHouses itself = waiting(57, "list 0 1 0 1 0 3 0 4 0 5;");
        itself.send(0, 7, 1);
        itself.tick(1);
        Checks.due("rule(13), itself is left out: 57 and three are 60", itself.rule(13), 1);
        Checks.due("rule(7)", itself.rule(7), 60);
        WaryHouses none = waiting(59, "list 0 1 0 1;");
        none.send(0, 7, 1);
        none.tick(1);
        Checks.due("rule(13), 59 and none", none.rule(13), 1);
        Checks.due("rule(7)", none.rule(7), 59);
    }

    private static void openedByOrder() {
        Checks.of(0, "else it is OPENED: for each of the LIST, by order, but for LISTS in its MARKS or that LIST itself, an ITEM more in"
                + " this QUEUE, of the same LETTER, with that TO, no TRIES, one HOP more, MARKS and that LIST (also if there is none); it"
                + " goes.");
        WaryHouses x = Checks.told(5, "house;domain 0 0;list 0 1 3 7 0 0 0 2 0 1;list 0 2 0 3 0 1 0 2 0 0;list 0 3 0 2 0 1 0 3 2 2;");
        x.send(0, 9, 1);
        x.tick(1);
        Checks.row("item(0, i, 2)", i -> x.item(0, i, 2), 31, 0, 2);
        Checks.item(x, 0, 0, 0, 9, 31, 0, 1, 2, 1);
        Checks.item(x, 0, 2, 0, 9, 2, 0, 1, 2, 1);
        Checks.log(x, 1, 5, 1, 0, 0, 1);
        x.tick(1);
        Checks.row("item(0, i, 2)", i -> x.item(0, i, 2), 9, 9, 3, 0);
        Checks.item(x, 0, 2, 0, 9, 3, 0, 2, 3, 2);
        Checks.item(x, 0, 3, 0, 9, 0, 0, 2, 3, 2);
        x.tick(1);
        Checks.item(x, 0, 0, 0, 9, 18, 0, 3, 4, 3);
        Checks.due("rule(13)", x.rule(13), 3);
        Checks.due("rule(17)", x.rule(17), 6);
        Checks.due("rule(6)", x.rule(6), 4);
    }

    private static void openedToNone() {
        Checks.of(0, "MARKS and that LIST (also if there is none); it goes.");
        WaryHouses x = Checks.told(5, "house;domain 0 0;list 0 0 0 0;list 0 1 0 2;list 0 2 0 1 0 2;");
        x.send(0, 9, 0);
        x.tick(1);
        Checks.due("rule(13)", x.rule(13), 1);
        Checks.due("rule(17)", x.rule(17), 0);
        Checks.due("rule(7)", x.rule(7), 0);
        Checks.log(x, 1, 5, 1, 0, 0, 0);
        x.send(0, 9, 1);
        x.tick(2);
        Checks.due("rule(13)", x.rule(13), 3);
        Checks.due("rule(17)", x.rule(17), 1);
        Checks.due("rule(7)", x.rule(7), 0);
        Checks.due("rule(15)", x.rule(15), 0);
    }

    /** They stay with an item that goes to another house and by an alias; a list is one mark, however often it was opened. */
    private static void marksOnTheWay() {
        Checks.of(0, "MARKS and that LIST (also if there is none); it goes.");
        WaryHouses x = Checks.told(7, "house;house;domain 0 0;domain 1 0;list 0 0 1 0;list 1 0 0 0 1 1;alias 1 1 0 0;");
        x.send(0, 9, 0);
        x.tick(1);
        Checks.item(x, 0, 0, 0, 9, 8, 0, 1, 2, 1);
        x.tick(1);
        Checks.item(x, 1, 0, 0, 9, 8, 0, 2, 3, 1);
        x.tick(1);
        Checks.item(x, 1, 0, 0, 9, 9, 0, 3, 4, 2);
        Checks.due("item(1, 1, 0), the marked one is left out", x.item(1, 1, 0), NONE);
        x.tick(1);
        Checks.item(x, 1, 0, 0, 9, 0, 0, 4, 5, 2);
        x.tick(1);
        Checks.item(x, 0, 0, 0, 9, 0, 0, 5, 6, 2);
        x.tick(1);
        Checks.due("rule(13), opened again, to none", x.rule(13), 3);
        Checks.due("rule(7)", x.rule(7), 0);
        WaryHouses bounced = Checks.told(4, "house;domain 0 0;list 0 0 0 1;list 0 1 0 7;");
        bounced.send(0, 5, 0);
        bounced.tick(3);
        Checks.item(bounced, 0, 0, 1, NONE, 5, 0, 0, 4, 0);
    }

    private static void unknown() {
        Checks.of(0, "TO is UNKNOWN: it BOUNCES.");
        WaryHouses x = Checks.told(4, "house;domain 0 0;box 0 0;alias 0 1 0 7;");
        x.send(0, 0, 7);
        x.send(0, 0, 1);
        x.tick(1);
        Checks.due("rule(15)", x.rule(15), 1);
        Checks.due("tick(1)", x.tick(1), 1);
        Checks.due("rule(15), by an alias", x.rule(15), 2);
        Checks.log(x, 4, 7, 2, 1, 0, 7);
        Checks.due("tick(1)", x.tick(1), 1);
        Checks.due("address(0, 1)", x.address(0, 1), 2);
    }

    private static void asksByPreference() {
        Checks.of(0, "4 else it asks RECEIVERS of that DOMAIN, by PREFERENCE, then by number: all,");
        int[][] want = {{3, 1, 2}, {1, 2, 3}};
        String[] domains = {"domain 2 9 1 5 3 0;", "domain 3 4 1 4 2 4;"};
        for (int t = 0; t < domains.length; t++) {
            for (int down = 0; down < 3; down++) {
                WaryHouses x = Checks.told(6, "house;house;house;house;house;" + domains[t]);
                for (int i = 0; i < down; i++) {
                    x.set(want[t][i], 0);
                }
                x.send(0, 5, 0);
                x.tick(1);
                Checks.due("where it went, " + down + " down", x.log(1, 3), want[t][down]);
                Checks.due("house(" + want[t][down] + ", 2)", x.house(want[t][down], 2), 1);
            }
        }
    }

    /** Of the same preference as its own: not asked, though it is UP. */
    private static void asksThoseOfLess() {
        Checks.of(0, "or, if the HOUSE is one, those of less PREFERENCE than its own.");
        WaryHouses x = Checks.told(5, "house;house;house;house;domain 0 1 1 2 2 2;");
        x.set(0, 0);
        x.send(1, 5, 0);
        x.send(2, 5, 0);
        x.send(3, 5, 0);
        x.tick(1);
        Checks.item(x, 1, 0, 0, 5, 0, 1, 0, 2, 0);
        Checks.item(x, 1, 1, 2, 5, 0, 0, 1, 2, 0);
        Checks.item(x, 2, 0, 1, 5, 0, 1, 0, 2, 0);
        Checks.due("rule(9)", x.rule(9), 1);
        x.set(0, 1);
        x.tick(1);
        Checks.due("house(0, 2)", x.house(0, 2), 3);
        WaryHouses more = Checks.told(4, "house;house;house;domain 0 9 1 5 2 0;");
        more.set(2, 0);
        more.send(1, 5, 0);
        more.tick(1);
        Checks.due("house(0, 2), of more preference: not asked", more.house(0, 2), 0);
        Checks.due("rule(14)", more.rule(14), 1);
    }

    private static void takenByTheFirst() {
        Checks.of(0, "The first that is UP and takes it has it in its QUEUE, with one HOP more, no TRIES; it goes.");
        WaryHouses x = Checks.told(4, "house;house wary;house;domain 1 0 2 1;");
        x.send(0, 5, 0);
        x.tick(1);
        Checks.item(x, 2, 0, 0, 5, 0, 0, 1, 2, 0);
        Checks.due("house(1, 3), it was asked first", x.house(1, 3), 1);
        Checks.due("house(0, 2)", x.house(0, 2), 0);
        WaryHouses tried = Checks.told(3, "house;house;domain 1 0;");
        tried.set(1, 0);
        tried.send(0, 5, 0);
        tried.tick(15);
        Checks.item(tried, 0, 0, 0, 5, 0, 4, 0, 16, 0);
        tried.set(1, 1);
        tried.tick(1);
        Checks.item(tried, 1, 0, 0, 5, 0, 0, 1, 17, 0);
        Checks.due("rule(15), not by the 5th: it was taken", tried.rule(15), 0);
    }

    private static void fiveTries() {
        Checks.of(0, "If none does, it has a TRY more: by the 5th it BOUNCES; else it is DUE 1, 2, 4, 8 TICKS later (by the 1st to 4th),"
                + " it stays.");
        WaryHouses x = Checks.told(3, "house;house;domain 1 0;");
        x.set(1, 0);
        x.send(0, 9, 0);
        int[] due = {2, 4, 4, 8, 8, 8, 8, 16, 16, 16, 16, 16, 16, 16, 16};
        int[] tries = {1, 2, 2, 3, 3, 3, 3, 4, 4, 4, 4, 4, 4, 4, 4};
        for (int i = 0; i < due.length; i++) {
            x.tick(1);
            Checks.item(x, 0, 0, 0, 9, 0, tries[i], 0, due[i], 0);
            Checks.due("rule(14)", x.rule(14), tries[i]);
        }
        Checks.due("rule(15), four tries", x.rule(15), 0);
        x.tick(1);
        Checks.due("rule(15), the 5th", x.rule(15), 1);
        Checks.due("rule(14), not the 5th", x.rule(14), 4);
        Checks.item(x, 0, 0, 1, NONE, 9, 0, 0, 17, 0);
        Checks.log(x, 5, 7, 16, 0, 0, 0);
        Checks.due("log(6, 0)", x.log(6, 0), NONE);
    }

    private static void noneOfThreeTakesIt() {
        Checks.of(0, "If none does, it has a TRY more: by the 5th it BOUNCES; else it is DUE 1, 2, 4, 8 TICKS later (by the 1st to 4th),"
                + " it stays.");
        WaryHouses wary = Checks.told(5, "house;house wary;house wary;house wary;domain 3 0 2 0 1 0;");
        wary.send(0, 9, 0);
        wary.tick(1);
        Checks.item(wary, 0, 0, 0, 9, 0, 1, 0, 2, 0);
        Checks.answers("house(h, 3), all were asked", h -> wary.house(h, 3), 0, 1, 1, 1);
        WaryHouses down = Checks.told(5, "house;house;house;house;domain 3 0 2 1 1 2;");
        down.set(1, 0);
        down.set(2, 0);
        down.set(3, 0);
        down.send(0, 9, 0);
        down.tick(1);
        Checks.item(down, 0, 0, 0, 9, 0, 1, 0, 2, 0);
    }

    /** Of a letter of nothing the 5th try is DEAD; of an item that stayed DOWN the ticks are counted from when it is handled. */
    private static void triesBeginAnew() {
        Checks.of(0, "If none does, it has a TRY more: by the 5th it BOUNCES; else it is DUE 1, 2, 4, 8 TICKS later (by the 1st to 4th),"
                + " it stays.");
        WaryHouses x = Checks.told(4, "house;house;domain 1 0;domain 0 0;");
        x.set(1, 0);
        x.send(0, 0, 9);
        x.tick(1);
        Checks.item(x, 0, 0, 1, NONE, 0, 0, 0, 2, 0);
        x.tick(16);
        Checks.due("rule(14)", x.rule(14), 4);
        Checks.due("rule(16)", x.rule(16), 1);
        Checks.due("rule(15)", x.rule(15), 1);
        Checks.due("rule(7)", x.rule(7), 0);
        WaryHouses late = Checks.told(3, "house;house;domain 1 0;");
        late.set(1, 0);
        late.send(0, 9, 0);
        late.tick(2);
        late.set(0, 0);
        late.tick(10);
        late.set(0, 1);
        late.tick(1);
        Checks.item(late, 0, 0, 0, 9, 0, 3, 0, 17, 0);
    }

    private static void bouncesOfNothing() {
        Checks.of(0, "It BOUNCES: FROM is nothing: it is DEAD (that alone is told of it), it goes.");
        WaryHouses x = Checks.told(2, "house;domain 0 0;");
        x.send(0, 1, 2);
        x.tick(2);
        Checks.due("rule(16)", x.rule(16), 1);
        Checks.due("rule(15), of the first alone", x.rule(15), 1);
        Checks.due("rule(7)", x.rule(7), 0);
        Checks.due("rule(6), none comes of it", x.rule(6), 2);
        Checks.log(x, 1, 7, 1, 0, 0, 2);
        Checks.log(x, 2, 8, 2, 1, 0, 1);
        Checks.due("log(3, 0)", x.log(3, 0), NONE);
    }

    private static void bounceIsALetter() {
        Checks.of(0, "Else it goes, and a LETTER more comes: from nothing, to FROM, an ITEM of no HOPS in this QUEUE.");
        WaryHouses x = Checks.told(6, "house;house;domain 0 0;domain 1 0;list 0 0 1 7;box 1 0;");
        x.send(0, 8, 0);
        x.tick(3);
        Checks.item(x, 1, 0, 1, NONE, 8, 0, 0, 4, 0);
        Checks.due("house(0, 2)", x.house(0, 2), 0);
        Checks.due("rule(8), it was not sent", x.rule(8), 1);
        Checks.due("rule(6)", x.rule(6), 2);
        Checks.due("tick(1)", x.tick(1), 1);
        Checks.due("address(8, 3)", x.address(8, 3), NONE);
        WaryHouses full = Checks.told(1, "house;");
        for (int i = 0; i < 60; i++) {
            full.send(0, i % 32, 31);
        }
        full.tick(1);
        Checks.due("rule(7), sixty bounce", full.rule(7), 60);
        Checks.due("rule(6)", full.rule(6), 120);
        for (int i = 0; i < 60; i++) {
            Checks.due("item(0, " + i + ", 0)", full.item(0, i, 0), 60 + i);
            Checks.due("item(0, " + i + ", 2)", full.item(0, i, 2), i % 32);
        }
        full.tick(1);
        Checks.due("rule(16), and all are dead", full.rule(16), 60);
        Checks.due("rule(7)", full.rule(7), 0);
    }
}
