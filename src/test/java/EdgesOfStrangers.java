/** Promise 18, and of the terms, part 2: houses that are wary. */
final class EdgesOfStrangers {
    private static final int NONE = Checks.NONE;
    private static final String TWO = "house;house wary;domain 1 0;box 0 0;";

    private EdgesOfStrangers() {
    }

    static void check() {
        notWary();
        waryOfItself();
        whoFromTo();
        strangerOfNothing();
        putDown();
        ticksAgo();
        passedLongAgo();
        passesForOthers();
        putDownAnew();
        anewFromThen();
        eightKnown();
        ninthPutDown();
        theOneThatPassedGoes();
        anewIsTheLatest();
        anewAtEachPlace();
        ninthHasNotPassed();
        eachHouseForItself();
        strangerOfNone();
        strangerBeside();
    }

    private static void notWary() {
        Checks.of(0, "A HOUSE that is not WARY takes all.");
        WaryHouses x = Checks.told(4, "house;house;domain 1 0;box 0 0;");
        for (int i = 0; i < 60; i++) {
            x.send(0, i % 32, i % 8);
        }
        x.tick(1);
        Checks.due("rule(9)", x.rule(9), 60);
        Checks.due("house(1, 2)", x.house(1, 2), 60);
        Checks.due("house(1, 3)", x.house(1, 3), 0);
    }

    private static void waryOfItself() {
        Checks.of(0, "A HOUSE that is not WARY takes all.");
        WaryHouses x = Checks.told(3, "house wary;domain 0 0;box 0 0;");
        x.send(0, 3, 0);
        Checks.due("tick(1): what is sent in a wary house waits for nobody", x.tick(1), 1);
        Checks.due("house(0, 3)", x.house(0, 3), 0);
    }

    /** Of each that differs in one of the three another stranger is put down. */
    private static void whoFromTo() {
        Checks.of(0, "A WARY one looks for the STRANGER: who asks, FROM, TO.");
        WaryHouses x = Checks.told(4, "house;house wary;house;domain 1 0;");
        x.send(0, 3, 0);
        x.send(0, 3, 1);
        x.send(0, 4, 0);
        x.send(2, 3, 0);
        x.send(0, 3, 0);
        x.tick(1);
        Checks.due("house(1, 3)", x.house(1, 3), 4);
        Checks.stranger(x, 1, 0, 0, 3, 0, 1, 0);
        Checks.stranger(x, 1, 1, 0, 3, 1, 1, 0);
        Checks.stranger(x, 1, 2, 0, 4, 0, 1, 0);
        Checks.stranger(x, 1, 3, 2, 3, 0, 1, 0);
        Checks.due("stranger(1, 4, 0)", x.stranger(1, 4, 0), NONE);
    }

    private static void strangerOfNothing() {
        Checks.of(0, "A WARY one looks for the STRANGER: who asks, FROM, TO.");
        WaryHouses x = Checks.told(5, "house;house wary;domain 1 0;domain 0 0;box 0 0;");
        x.send(0, 0, 9);
        x.send(0, 0, 0);
        x.tick(2);
        Checks.due("house(1, 3), from nothing and from 0", x.house(1, 3), 2);
        Checks.stranger(x, 1, 0, 0, 0, 0, 1, 0);
        Checks.stranger(x, 1, 1, 0, NONE, 0, 2, 0);
        Checks.due("run(60)", x.run(60), 4);
        Checks.due("house(1, 4)", x.house(1, 4), 2);
        Checks.due("address(0, 1)", x.address(0, 1), 2);
    }

    private static void putDown() {
        Checks.of(0, "Is it not known: it is put down with CLOCK, not taken.");
        WaryHouses x = Checks.told(4, TWO);
        x.tick(7);
        x.send(0, 31, 7);
        x.tick(1);
        Checks.stranger(x, 1, 0, 0, 31, 7, 8, 0);
        Checks.due("house(1, 2)", x.house(1, 2), 0);
        Checks.item(x, 0, 0, 0, 31, 7, 1, 0, 9, 0);
        WaryHouses down = Checks.told(4, TWO);
        down.set(1, 0);
        down.send(0, 31, 7);
        down.tick(1);
        Checks.due("house(1, 3), who is down looks for none", down.house(1, 3), 0);
    }

    /** It is put down at tick 1 and asks again so many ticks later: house 0 is DOWN between. */
    private static WaryHouses askedAgain(int ago) {
        WaryHouses x = Checks.told(4, TWO);
        x.send(0, 3, 0);
        x.tick(1);
        x.set(0, 0);
        for (int i = 1; i < ago; i++) {
            x.tick(1);
        }
        x.set(0, 1);
        x.tick(1);
        return x;
    }

    private static void ticksAgo() {
        Checks.of(0, "Is it known: if it PASSED, or was put down 3 to 20 TICKS ago, it PASSED, and is taken; less than 3: not taken; more"
                + " than 20: it is put down anew with CLOCK, not taken.");
        for (int ago = 1; ago <= 24; ago++) {
            WaryHouses x = askedAgain(ago);
            boolean taken = ago >= 3 && ago <= 20;
            Checks.due("house(1, 2), " + ago + " ago", x.house(1, 2), taken ? 1 : 0);
            Checks.due("house(0, 2), " + ago + " ago", x.house(0, 2), taken ? 0 : 1);
            Checks.due("house(1, 4), " + ago + " ago", x.house(1, 4), taken ? 1 : 0);
            Checks.due("house(1, 3), " + ago + " ago", x.house(1, 3), 1);
            Checks.stranger(x, 1, 0, 0, 3, 0, ago > 20 ? 1 + ago : 1, taken ? 1 : 0);
        }
        WaryHouses same = Checks.told(4, TWO);
        same.send(0, 3, 0);
        same.send(0, 3, 0);
        same.tick(1);
        Checks.due("house(1, 2), none ago", same.house(1, 2), 0);
        Checks.due("house(1, 3), none ago", same.house(1, 3), 1);
    }

    private static void passedLongAgo() {
        Checks.of(0, "Is it known: if it PASSED, or was put down 3 to 20 TICKS ago, it PASSED, and is taken; less than 3: not taken; more"
                + " than 20: it is put down anew with CLOCK, not taken.");
        WaryHouses x = askedAgain(20);
        for (int i = 0; i < 5; i++) {
            x.tick(20);
        }
        x.send(0, 3, 0);
        x.tick(1);
        Checks.due("house(1, 2), passed and 121 ago", x.house(1, 2), 1);
        Checks.stranger(x, 1, 0, 0, 3, 0, 1, 1);
    }

    /** The letter is not part of the stranger: another one of the same three finds it. */
    private static void passesForOthers() {
        Checks.of(0, "Is it known: if it PASSED, or was put down 3 to 20 TICKS ago, it PASSED, and is taken; less than 3: not taken; more"
                + " than 20: it is put down anew with CLOCK, not taken.");
        WaryHouses x = Checks.told(4, TWO);
        x.send(0, 3, 0);
        x.tick(2);
        x.set(0, 0);
        x.tick(1);
        x.send(0, 3, 0);
        x.set(0, 1);
        x.tick(1);
        Checks.row("item(1, i, 0)", i -> x.item(1, i, 0), 0, 1);
        Checks.due("rule(14), the second had no try", x.rule(14), 2);
        WaryHouses soon = Checks.told(4, TWO);
        soon.send(0, 3, 0);
        soon.tick(2);
        soon.send(0, 3, 0);
        soon.tick(1);
        Checks.due("house(1, 2), two ago for the other", soon.house(1, 2), 0);
        soon.tick(1);
        Checks.row("item(1, i, 0), three ago for both", i -> soon.item(1, i, 0), 0, 1);
    }

    private static void putDownAnew() {
        Checks.of(0, "more than 20: it is put down anew with CLOCK, not taken.");
        WaryHouses x = askedAgain(21);
        Checks.stranger(x, 1, 0, 0, 3, 0, 22, 0);
        Checks.item(x, 0, 0, 0, 3, 0, 2, 0, 24, 0);
        x.tick(2);
        Checks.due("house(1, 2), two behind that", x.house(1, 2), 0);
        Checks.item(x, 0, 0, 0, 3, 0, 3, 0, 28, 0);
        x.tick(4);
        Checks.due("house(1, 2), six behind that", x.house(1, 2), 1);
        Checks.stranger(x, 1, 0, 0, 3, 0, 22, 1);
    }

    private static void anewFromThen() {
        Checks.of(0, "more than 20: it is put down anew with CLOCK, not taken.");
        WaryHouses x = askedAgain(30);
        x.set(0, 0);
        x.tick(20);
        x.set(0, 1);
        x.tick(1);
        Checks.due("rule(5)", x.rule(5), 52);
        Checks.due("house(1, 2), 21 behind that: anew again", x.house(1, 2), 0);
        Checks.stranger(x, 1, 0, 0, 3, 0, 52, 0);
    }

    private static void eightKnown() {
        Checks.of(0, "A HOUSE knows 8 STRANGERS;");
        WaryHouses x = Checks.told(4, TWO);
        for (int i = 0; i < 8; i++) {
            x.send(0, 20 + i, 0);
            x.tick(1);
            Checks.due("house(1, 3)", x.house(1, 3), i + 1);
        }
        Checks.row("stranger(1, i, 1), by when they were put down", i -> x.stranger(1, i, 1), 20, 21, 22, 23, 24, 25, 26, 27);
        Checks.row("stranger(1, i, 3)", i -> x.stranger(1, i, 3), 1, 2, 3, 4, 5, 6, 7, 8);
    }

    private static void ninthPutDown() {
        Checks.of(0, "by another one that is put down the one goes that was put down the longest ago");
        WaryHouses x = Checks.told(4, TWO);
        for (int i = 0; i < 9; i++) {
            x.send(0, 20 + i, 0);
        }
        x.tick(1);
        Checks.due("house(1, 3)", x.house(1, 3), 8);
        Checks.row("stranger(1, i, 1)", i -> x.stranger(1, i, 1), 21, 22, 23, 24, 25, 26, 27, 28);
        x.tick(1);
        Checks.row("stranger(1, i, 1), each that comes again was gone", i -> x.stranger(1, i, 1), 21, 22, 23, 24, 25, 26, 27, 28);
        Checks.row("stranger(1, i, 3)", i -> x.stranger(1, i, 3), 2, 2, 2, 2, 2, 2, 2, 2);
        WaryHouses two = Checks.told(4, TWO);
        for (int i = 0; i < 8; i++) {
            two.send(0, i, 0);
        }
        two.tick(1);
        two.set(0, 0);
        two.tick(1);
        two.send(0, 30, 1);
        two.send(0, 31, 1);
        two.set(0, 1);
        two.tick(1);
        Checks.row("stranger(1, i, 1), two more", i -> two.stranger(1, i, 1), 2, 3, 4, 5, 6, 7, 30, 31);
        Checks.due("house(1, 3)", two.house(1, 3), 8);
    }

    private static void theOneThatPassedGoes() {
        Checks.of(0, "by another one that is put down the one goes that was put down the longest ago");
        WaryHouses x = Checks.told(4, TWO);
        x.send(0, 3, 0);
        x.tick(4);
        Checks.due("house(1, 4)", x.house(1, 4), 1);
        for (int i = 0; i < 8; i++) {
            x.send(0, 20 + i, 0);
        }
        x.tick(1);
        Checks.due("house(1, 3)", x.house(1, 3), 8);
        Checks.due("house(1, 4), it is gone, though it passed", x.house(1, 4), 0);
        x.send(0, 3, 0);
        x.tick(1);
        Checks.stranger(x, 1, 7, 0, 3, 0, 6, 0);
        Checks.due("stranger(1, 0, 1)", x.stranger(1, 0, 1), 21);
    }

    private static void anewIsTheLatest() {
        Checks.of(0, "(one that is put down anew counts from then).");
        WaryHouses x = Checks.told(5, "house;house wary;house;domain 1 0;box 0 0;");
        x.send(0, 10, 0);
        x.tick(1);
        x.set(0, 0);
        x.tick(10);
        for (int i = 0; i < 7; i++) {
            x.send(2, 20 + i, 0);
        }
        x.tick(1);
        x.set(2, 0);
        Checks.due("stranger(1, 0, 1)", x.stranger(1, 0, 1), 10);
        x.tick(10);
        x.set(0, 1);
        x.tick(1);
        Checks.row("stranger(1, i, 1), it is the latest", i -> x.stranger(1, i, 1), 20, 21, 22, 23, 24, 25, 26, 10);
        Checks.due("stranger(1, 7, 3)", x.stranger(1, 7, 3), 23);
        x.send(0, 11, 0);
        x.tick(1);
        Checks.row("stranger(1, i, 1), another goes", i -> x.stranger(1, i, 1), 21, 22, 23, 24, 25, 26, 10, 11);
    }

    /** Of eight the one at each place is put down anew, the others stay as they were, passed or not. */
    private static void anewAtEachPlace() {
        Checks.of(0, "(one that is put down anew counts from then).");
        for (int place = 0; place < 8; place++) {
            WaryHouses x = Checks.told(5, "house;house wary;house;domain 1 0;box 0 0;");
            for (int i = 0; i < 8; i++) {
                x.send(i == place ? 2 : 0, 20 + i, 0);
                x.tick(1);
                x.set(2, i == place ? 0 : x.house(2, 1));
            }
            x.tick(20);
            x.tick(1);
            Checks.due("house(1, 4), all but one", x.house(1, 4), 7);
            x.set(2, 1);
            x.tick(1);
            for (int i = 0; i < 7; i++) {
                int was = i < place ? i : i + 1;
                Checks.stranger(x, 1, i, 0, 20 + was, 0, 1 + was, 1);
            }
            Checks.stranger(x, 1, 7, 2, 20 + place, 0, 30, 0);
            Checks.due("house(1, 3)", x.house(1, 3), 8);
        }
    }

    /** Where others that passed have stood, one that is put down has not. */
    private static void ninthHasNotPassed() {
        Checks.of(0, "Is it not known: it is put down with CLOCK, not taken.");
        WaryHouses x = Checks.told(4, TWO);
        for (int i = 0; i < 8; i++) {
            x.send(0, 20 + i, 0);
        }
        x.tick(4);
        Checks.due("house(1, 4)", x.house(1, 4), 8);
        x.send(0, 9, 0);
        x.tick(1);
        Checks.stranger(x, 1, 7, 0, 9, 0, 5, 0);
        Checks.due("house(1, 4)", x.house(1, 4), 7);
        Checks.due("house(0, 2), not taken", x.house(0, 2), 1);
        Checks.tell(x, TWO);
        x.send(0, 20, 0);
        x.tick(1);
        Checks.stranger(x, 1, 0, 0, 20, 0, 1, 0);
    }

    private static void eachHouseForItself() {
        Checks.of(0, "A HOUSE knows 8 STRANGERS;");
        WaryHouses x = Checks.told(6, "house;house wary;house wary;house wary;house wary;domain 1 0 2 1 4 2;");
        x.send(0, 5, 0);
        x.tick(1);
        Checks.answers("house(h, 3), all that were asked", h -> x.house(h, 3), 0, 1, 1, 0, 1);
        Checks.stranger(x, 4, 0, 0, 5, 0, 1, 0);
        x.set(1, 0);
        x.tick(3);
        Checks.answers("house(h, 4), the first that takes it", h -> x.house(h, 4), 0, 0, 1, 0, 0);
        Checks.due("house(2, 2)", x.house(2, 2), 1);
        x.set(1, 1);
        x.tick(1);
        Checks.due("house(1, 3), another who asks", x.house(1, 3), 2);
        Checks.stranger(x, 1, 1, 2, 5, 0, 5, 0);
    }

    private static void strangerOfNone() {
        Checks.of(18, "Of the i-th STRANGER (0 on) that a HOUSE knows, by when they were put down: 0 who asked, 1 FROM (NONE), 2 TO, 3 when it"
                + " was put down, 4 whether it PASSED (1, 0).");
        Checks.of(18, "NONE: there are not so many.");
        WaryHouses x = Checks.told(4, TWO);
        for (int h = 0; h < 2; h++) {
            for (int what = 0; what <= 4; what++) {
                int[] n = {h, what};
                Checks.row("stranger(" + h + ", i, " + what + ") of none", i -> x.stranger(n[0], i, n[1]));
            }
        }
        x.send(0, 3, 0);
        x.tick(1);
        Checks.row("stranger(0, i, 0)", i -> x.stranger(0, i, 0));
        Checks.row("stranger(1, i, 1)", i -> x.stranger(1, i, 1), 3);
        for (int i = 0; i < 8; i++) {
            x.send(0, 20 + i, 1);
        }
        x.tick(1);
        for (int what = 0; what <= 4; what++) {
            Checks.due("stranger(1, 8, " + what + "), all of them known", x.stranger(1, 8, what), NONE);
        }
        Checks.due("stranger(1, 7, 1)", x.stranger(1, 7, 1), 27);
    }

    private static void strangerBeside() {
        Checks.of(18, "BAD: h, i below 0, what;");
        WaryHouses x = Checks.told(4, TWO);
        x.send(0, 3, 0);
        x.tick(1);
        Checks.badBeside("stranger(h, 0, 0)", 0, 1, h -> x.stranger(h, 0, 0));
        Checks.badBeside("stranger(1, 0, what)", 0, 4, what -> x.stranger(1, 0, what));
        Checks.badBeside("stranger(0, 0, what), not so many either", 0, 4, what -> x.stranger(0, 0, what));
        Checks.bad("stranger, i below 0", () -> x.stranger(1, -1, 0), () -> x.stranger(0, -1, 4),
                () -> x.stranger(1, Integer.MIN_VALUE, 1));
        WaryHouses five = Checks.told(5, "house wary;house wary;house wary;house wary;house wary;");
        Checks.due("stranger(4, 0, 0)", five.stranger(4, 0, 0), NONE);
        Checks.badBeside("stranger(h, 0, 0) of five", 0, 4, h -> five.stranger(h, 0, 0));
    }
}
