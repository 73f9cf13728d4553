/** Promises 12 to 19 but 17: letters on their way, how they are handled, and what is told of it. */
public final class CarryTest {
    public static void main(String[] args) {
        Checks.begin("CarryTest");
        sending();
        full();
        ticking();
        running();
        setting();
        handingOver();
        trying();
        bouncing();
        hopsAreEight();
        opening();
        noRoomToOpen();
        doubles();
        waryHouse();
        strangersGo();
        order();
        logIsLimited();
        Checks.finish("CarryTest");
    }

    private static void sending() {
        WaryHouses x = Checks.told(3, "house;domain 0 0;box 0 0;");
        Checks.bad("send", () -> x.send(-1, 0, 0), () -> x.send(1, 0, 0), () -> x.send(0, -1, 0),
                () -> x.send(0, 32, 0), () -> x.send(0, 0, -1), () -> x.send(0, 0, 32),
                () -> x.send(0, Checks.NONE, 0), () -> x.send(Integer.MAX_VALUE, 0, 0));
        Checks.due("rule(6)", x.rule(6), 0);
        Checks.due("send(0, 31, 0)", x.send(0, 31, 0), 0);
        Checks.due("send(0, 0, 31)", x.send(0, 0, 31), 1);
        Checks.item(x, 0, 0, 0, 31, 0, 0, 0, 1, 0);
        Checks.item(x, 0, 1, 1, 0, 31, 0, 0, 1, 0);
        Checks.log(x, 0, 0, 0, 0, 0, 0);
        Checks.log(x, 1, 0, 0, 1, 0, 31);
        Checks.due("item(0, 2, 0)", x.item(0, 2, 0), Checks.NONE);
        Checks.bad("item", () -> x.item(-1, 0, 0), () -> x.item(1, 0, 0), () -> x.item(0, -1, 0),
                () -> x.item(0, 0, -1), () -> x.item(0, 0, 7), () -> x.item(0, 9, 7));
        Checks.due("log(2, 0)", x.log(2, 0), Checks.NONE);
        Checks.bad("log", () -> x.log(-1, 0), () -> x.log(0, -1), () -> x.log(0, 5), () -> x.log(9, 5));
        Checks.due("tick(1)", x.tick(1), 1);
        Checks.due("send(0, 1, 0)", x.send(0, 1, 0), 3);
        Checks.item(x, 0, 1, 3, 1, 0, 0, 0, 2, 0);
    }

    private static void full() {
        WaryHouses x = Checks.told(4, "house;house;domain 0 0;box 0 0;");
        for (int i = 0; i < 60; i++) {
            Checks.due("send", x.send(i % 2, 0, 0), i);
        }
        Checks.due("send of the 61st", x.send(0, 0, 0), Checks.FULL);
        Checks.due("send, BAD and FULL", x.send(2, 0, 0), Checks.BAD);
        Checks.due("rule(6)", x.rule(6), 60);
        Checks.due("rule(7)", x.rule(7), 60);
        Checks.due("rule(8)", x.rule(8), 60);
        Checks.due("house(0, 2)", x.house(0, 2), 30);
        Checks.due("house(1, 2)", x.house(1, 2), 30);
        Checks.due("item(1, 29, 0)", x.item(1, 29, 0), 59);
        Checks.due("item(1, 30, 0)", x.item(1, 30, 0), Checks.NONE);
        Checks.due("tick(1)", x.tick(1), 30);
        Checks.due("house(0, 2)", x.house(0, 2), 30);
        Checks.due("house(1, 2)", x.house(1, 2), 0);
        Checks.due("address(0, 1)", x.address(0, 1), 30);
        Checks.due("address(0, 2)", x.address(0, 2), 58);
        Checks.due("address(0, 3)", x.address(0, 3), 0);
        Checks.due("tick(1)", x.tick(1), 30);
        Checks.due("address(0, 1)", x.address(0, 1), 60);
        Checks.due("address(0, 2)", x.address(0, 2), 59);
    }

    private static void ticking() {
        WaryHouses x = Checks.told(3, "house;domain 0 0;box 0 0;");
        Checks.bad("tick", () -> x.tick(0), () -> x.tick(21), () -> x.tick(-1), () -> x.tick(Integer.MIN_VALUE),
                () -> x.tick(Integer.MAX_VALUE));
        Checks.due("rule(5)", x.rule(5), 0);
        x.send(0, 1, 0);
        Checks.due("tick(20)", x.tick(20), 1);
        Checks.due("rule(5)", x.rule(5), 20);
        Checks.due("tick(1)", x.tick(1), 0);
        Checks.due("rule(5)", x.rule(5), 21);
        Checks.due("rule(10)", x.rule(10), 1);
        Checks.log(x, 1, 2, 1, 0, 0, 0);
    }

    private static void running() {
        WaryHouses x = Checks.told(4, "house;domain 0 0;box 0 0;alias 0 1 0 0;");
        Checks.bad("run", () -> x.run(0), () -> x.run(61), () -> x.run(-1), () -> x.run(Integer.MAX_VALUE));
        Checks.due("run(60) of none", x.run(60), 0);
        Checks.due("rule(5)", x.rule(5), 0);
        x.send(0, 0, 1);
        Checks.due("run(1)", x.run(1), 1);
        Checks.due("run(60)", x.run(60), 1);
        Checks.due("rule(5)", x.rule(5), 2);
        Checks.due("rule(12)", x.rule(12), 1);
        Checks.log(x, 1, 4, 1, 0, 0, 1);
        Checks.log(x, 2, 2, 2, 0, 0, 0);
        x.send(0, 0, 0);
        x.set(0, 0);
        Checks.due("run(60), down", x.run(60), 60);
        Checks.due("rule(5)", x.rule(5), 62);
    }

    private static void setting() {
        WaryHouses x = Checks.told(4, "house;house;domain 0 0;box 0 0;");
        Checks.bad("set", () -> x.set(-1, 0), () -> x.set(2, 0), () -> x.set(0, -1), () -> x.set(0, 2),
                () -> x.set(0, Integer.MAX_VALUE));
        Checks.due("set(0, 0)", x.set(0, 0), 1);
        Checks.due("set(0, 0)", x.set(0, 0), 0);
        Checks.due("house(0, 1)", x.house(0, 1), 0);
        Checks.due("house(1, 1)", x.house(1, 1), 1);
        Checks.due("send(0, 0, 0) to a house that is down", x.send(0, 0, 0), 0);
        Checks.due("tick(5)", x.tick(5), 0);
        Checks.item(x, 0, 0, 0, 0, 0, 0, 0, 1, 0);
        Checks.due("set(0, 1)", x.set(0, 1), 0);
        Checks.due("set(0, 1)", x.set(0, 1), 1);
        Checks.due("tick(1)", x.tick(1), 1);
    }

    /** To a house behind in the same tick, and ahead; by preference; what comes is due a tick later. */
    private static void handingOver() {
        WaryHouses x = Checks.told(6, "house;house;house;domain 2 1 1 4;domain 0 0;box 0 3;");
        x.send(0, 9, 3);
        x.send(1, 9, 3);
        x.send(2, 3, 9);
        Checks.due("tick(1)", x.tick(1), 0);
        Checks.item(x, 2, 0, 0, 9, 3, 0, 1, 2, 0);
        Checks.item(x, 2, 1, 1, 9, 3, 0, 1, 2, 0);
        Checks.item(x, 0, 0, 2, 3, 9, 0, 1, 2, 0);
        Checks.log(x, 3, 1, 1, 0, 2, 3);
        Checks.log(x, 4, 1, 1, 1, 2, 3);
        Checks.log(x, 5, 1, 1, 2, 0, 9);
        Checks.due("rule(9)", x.rule(9), 3);
        x.set(2, 0);
        x.send(0, 9, 3);
        x.send(1, 9, 3);
        Checks.due("tick(1), the first is down", x.tick(1), 0);
        Checks.item(x, 0, 0, 5, Checks.NONE, 3, 0, 0, 3, 0);
        Checks.item(x, 1, 0, 4, 9, 3, 1, 0, 3, 0);
        Checks.item(x, 1, 1, 3, 9, 3, 0, 1, 3, 0);
        Checks.due("house(0, 2)", x.house(0, 2), 1);
        Checks.due("house(1, 2)", x.house(1, 2), 2);
        Checks.due("house(2, 2)", x.house(2, 2), 2);
    }

    private static void trying() {
        WaryHouses x = Checks.told(4, "house;house;domain 1 0;box 0 0;");
        x.set(1, 0);
        x.send(0, 9, 0);
        int[] due = {2, 4, 4, 8, 8, 8, 8, 16, 16, 16, 16, 16, 16, 16, 16};
        int[] tries = {1, 2, 2, 3, 3, 3, 3, 4, 4, 4, 4, 4, 4, 4, 4};
        for (int i = 0; i < due.length; i++) {
            Checks.due("tick(1)", x.tick(1), 0);
            Checks.item(x, 0, 0, 0, 9, 0, tries[i], 0, due[i], 0);
        }
        Checks.due("rule(14)", x.rule(14), 4);
        Checks.log(x, 1, 6, 1, 0, 0, 0);
        Checks.log(x, 4, 6, 8, 0, 0, 0);
        Checks.due("log(5, 0)", x.log(5, 0), Checks.NONE);
        x.tick(1);
        Checks.due("rule(14) behind the 5th", x.rule(14), 4);
        Checks.due("rule(15)", x.rule(15), 1);
        Checks.log(x, 5, 7, 16, 0, 0, 0);
        Checks.item(x, 0, 0, 1, Checks.NONE, 9, 0, 0, 17, 0);
        x.send(0, 9, 0);
        x.tick(2);
        Checks.item(x, 0, 0, 2, 9, 0, 2, 0, 20, 0);
        x.set(1, 1);
        x.tick(2);
        Checks.item(x, 1, 0, 2, 9, 0, 0, 1, 21, 0);
        Checks.due("tick(1)", x.tick(1), 1);
    }

    private static void bouncing() {
        WaryHouses x = Checks.told(4, "house;domain 0 0;domain;box 0 0;");
        x.send(0, 0, 1);
        x.send(0, 0, 8);
        x.send(0, 0, 31);
        x.send(0, 5, 8);
        Checks.due("tick(1)", x.tick(1), 0);
        Checks.due("rule(15)", x.rule(15), 4);
        Checks.due("rule(16)", x.rule(16), 0);
        Checks.due("rule(6)", x.rule(6), 8);
        Checks.due("rule(7)", x.rule(7), 4);
        Checks.due("rule(8)", x.rule(8), 4);
        Checks.item(x, 0, 0, 4, Checks.NONE, 0, 0, 0, 2, 0);
        Checks.item(x, 0, 3, 7, Checks.NONE, 5, 0, 0, 2, 0);
        Checks.log(x, 4, 7, 1, 0, 0, 1);
        Checks.log(x, 6, 7, 1, 2, 0, 31);
        Checks.due("log(8, 0)", x.log(8, 0), Checks.NONE);
        Checks.due("tick(1)", x.tick(1), 3);
        Checks.due("address(0, 2)", x.address(0, 2), 6);
        Checks.due("address(0, 3), of nothing", x.address(0, 3), Checks.NONE);
        Checks.due("rule(15)", x.rule(15), 4);
        Checks.due("rule(16)", x.rule(16), 1);
        Checks.due("rule(7)", x.rule(7), 0);
        Checks.log(x, 11, 8, 2, 7, 0, 5);
        allBounceAtOnce();
    }

    private static void allBounceAtOnce() {
        WaryHouses x = Checks.told(3, "house;domain 0 0;box 0 0;");
        for (int i = 0; i < 60; i++) {
            x.send(0, 0, 1);
        }
        Checks.due("tick(1)", x.tick(1), 0);
        Checks.due("rule(7)", x.rule(7), 60);
        for (int i = 0; i < 60; i++) {
            Checks.item(x, 0, i, 60 + i, Checks.NONE, 0, 0, 0, 2, 0);
        }
        Checks.due("send(0, 0, 0)", x.send(0, 0, 0), Checks.FULL);
        Checks.due("tick(1)", x.tick(1), 60);
        Checks.due("rule(7)", x.rule(7), 0);
    }

    private static void hopsAreEight() {
        WaryHouses loop = Checks.told(3, "house;domain 0 0;alias 0 0 0 0;");
        loop.send(0, 3, 0);
        loop.tick(8);
        Checks.due("rule(12)", loop.rule(12), 8);
        Checks.item(loop, 0, 0, 0, 3, 0, 0, 8, 9, 0);
        loop.tick(1);
        Checks.due("rule(12)", loop.rule(12), 8);
        Checks.due("rule(15)", loop.rule(15), 1);
        Checks.due("run(60)", loop.run(60), 1);
        Checks.due("rule(16)", loop.rule(16), 1);
        WaryHouses chain = Checks.told(12, "house;domain 0 0;domain 0 0;box 1 0;alias 0 0 1 0;alias 0 1 0 0;"
                + "alias 0 2 0 1;alias 0 3 0 2;alias 0 4 0 3;alias 0 5 0 4;alias 0 6 0 5;alias 0 7 0 6;");
        chain.send(0, 8, 6);
        Checks.due("tick(8) by seven aliases", chain.tick(8), 1);
        chain.send(0, 9, 7);
        Checks.due("tick(9) by eight aliases", chain.tick(9), 0);
        Checks.due("rule(15)", chain.rule(15), 1);
        Checks.item(chain, 0, 0, 2, Checks.NONE, 9, 0, 0, 18, 0);
    }

    private static void opening() {
        WaryHouses x = Checks.told(7, "house;domain 0 0;box 0 0;list 0 1 0 0 0 2 0 1 3 0;list 0 2 0 1 0 3 0 2;"
                + "list 0 3 0 3;box 0 4;");
        x.send(0, 4, 1);
        x.tick(1);
        Checks.due("rule(13)", x.rule(13), 1);
        Checks.due("rule(17)", x.rule(17), 3);
        Checks.due("house(0, 2)", x.house(0, 2), 3);
        Checks.item(x, 0, 0, 0, 4, 0, 0, 1, 2, 1);
        Checks.item(x, 0, 1, 0, 4, 2, 0, 1, 2, 1);
        Checks.item(x, 0, 2, 0, 4, 24, 0, 1, 2, 1);
        Checks.log(x, 1, 5, 1, 0, 0, 1);
        Checks.due("tick(1)", x.tick(1), 1);
        Checks.due("rule(13)", x.rule(13), 2);
        Checks.due("rule(17)", x.rule(17), 4);
        Checks.item(x, 0, 0, 0, 4, 3, 0, 2, 3, 2);
        Checks.item(x, 0, 1, 1, Checks.NONE, 4, 0, 0, 3, 0);
        Checks.due("tick(1)", x.tick(1), 1);
        Checks.due("rule(13), one of none", x.rule(13), 3);
        Checks.due("rule(17)", x.rule(17), 4);
        Checks.due("rule(7)", x.rule(7), 0);
        x.send(0, 3, 5);
        Checks.due("tick(2), back to a list", x.tick(2), 0);
        Checks.due("rule(13)", x.rule(13), 3);
        Checks.due("rule(15)", x.rule(15), 2);
        Checks.due("rule(16)", x.rule(16), 1);
        Checks.due("rule(7)", x.rule(7), 0);
        for (int i = 0; i < 9; i++) {
            x.send(0, 4, 0);
            Checks.item(x, 0, i, i + 4, 4, 0, 0, 0, 6, 0);
        }
        listByAlias();
    }

    /** A list that an alias leads back to opens again, but it is one mark. */
    private static void listByAlias() {
        WaryHouses x = Checks.told(5, "house;domain 0 0;box 0 0;list 0 1 0 0 0 2;alias 0 2 0 1;");
        x.send(0, 4, 1);
        x.tick(2);
        Checks.item(x, 0, 0, 0, 4, 1, 0, 2, 3, 1);
        x.tick(1);
        Checks.item(x, 0, 0, 0, 4, 0, 0, 3, 4, 1);
        Checks.item(x, 0, 1, 0, 4, 2, 0, 3, 4, 1);
        Checks.due("rule(13)", x.rule(13), 2);
        Checks.due("run(60)", x.run(60), 7);
        Checks.due("rule(10)", x.rule(10), 1);
        Checks.due("rule(11)", x.rule(11), 3);
        Checks.due("rule(13)", x.rule(13), 4);
    }

    /** A list of three, one of which is marked, waits while there are more than 60 behind it. */
    private static void noRoomToOpen() {
        WaryHouses x = Checks.told(5, "house;house;domain 0 0;box 0 0;list 0 1 0 0 0 1 0 2 0 3;");
        x.set(1, 0);
        x.send(0, 7, 1);
        for (int i = 0; i < 58; i++) {
            x.send(1, 0, 0);
        }
        x.tick(1);
        Checks.due("rule(13)", x.rule(13), 0);
        Checks.item(x, 0, 0, 0, 7, 1, 0, 0, 2, 0);
        Checks.due("log(59, 0): nothing is told of it", x.log(59, 0), Checks.NONE);
        x.tick(3);
        Checks.item(x, 0, 0, 0, 7, 1, 0, 0, 5, 0);
        x.send(0, 5, 0);
        Checks.due("tick(1)", x.tick(1), 1);
        Checks.due("rule(7)", x.rule(7), 59);
        WaryHouses fits = Checks.told(5, "house;house;domain 0 0;box 0 0;list 0 1 0 0 0 1 0 2 0 3;");
        fits.set(1, 0);
        fits.send(0, 7, 1);
        for (int i = 0; i < 57; i++) {
            fits.send(1, 0, 0);
        }
        fits.tick(1);
        Checks.due("rule(13)", fits.rule(13), 1);
        Checks.due("rule(7)", fits.rule(7), 60);
    }

    /** By a list a letter comes to a box at once and, by a house that was down, behind others. */
    private static void doubles() {
        doubleBehind(0, 1, 0);
        doubleBehind(7, 1, 0);
        doubleBehind(8, 0, 1);
    }

    private static void doubleBehind(int others, int doubles, int again) {
        WaryHouses x = Checks.told(7, "house;house;domain 0 0;domain 1 0;box 0 0;alias 1 0 0 0;list 0 1 0 0 1 0;");
        x.set(1, 0);
        x.send(0, 5, 1);
        Checks.due("tick(2)", x.tick(2), 1);
        for (int i = 0; i < others; i++) {
            x.send(0, 6, 0);
        }
        Checks.due("tick(1)", x.tick(1), others);
        x.set(1, 1);
        x.run(60);
        Checks.due("rule(11) behind " + others, x.rule(11), doubles);
        Checks.due("rule(10) behind " + others, x.rule(10), 1 + others + again);
        Checks.due("address(0, 1) behind " + others, x.address(0, 1), 1 + others + again);
        Checks.due("address(0, 2) behind " + others, x.address(0, 2), again == 1 ? 0 : others);
        Checks.due("address(0, 3) behind " + others, x.address(0, 3), again == 1 || others == 0 ? 5 : 6);
        int last = 0;
        while (x.log(last + 1, 0) != Checks.NONE) {
            last++;
        }
        Checks.log(x, last, again == 1 ? 2 : 3, x.rule(5), 0, 0, 0);
    }

    private static void waryHouse() {
        WaryHouses x = Checks.told(4, "house;house wary;domain 1 0;box 0 0;");
        x.send(0, 3, 0);
        x.tick(1);
        Checks.due("house(1, 3)", x.house(1, 3), 1);
        Checks.stranger(x, 1, 0, 0, 3, 0, 1, 0);
        Checks.due("stranger(1, 1, 0)", x.stranger(1, 1, 0), Checks.NONE);
        Checks.due("stranger(0, 0, 0)", x.stranger(0, 0, 0), Checks.NONE);
        Checks.bad("stranger", () -> x.stranger(-1, 0, 0), () -> x.stranger(2, 0, 0), () -> x.stranger(1, -1, 0),
                () -> x.stranger(1, 0, -1), () -> x.stranger(1, 0, 5), () -> x.stranger(1, 9, 5));
        x.tick(2);
        Checks.item(x, 0, 0, 0, 3, 0, 2, 0, 4, 0);
        Checks.due("house(1, 4)", x.house(1, 4), 0);
        x.tick(1);
        Checks.item(x, 1, 0, 0, 3, 0, 0, 1, 5, 0);
        Checks.due("house(1, 4)", x.house(1, 4), 1);
        Checks.stranger(x, 1, 0, 0, 3, 0, 1, 1);
        x.send(0, 3, 0);
        x.send(0, 4, 0);
        Checks.due("tick(1)", x.tick(1), 1);
        Checks.item(x, 1, 0, 1, 3, 0, 0, 1, 6, 0);
        Checks.item(x, 0, 0, 2, 4, 0, 1, 0, 6, 0);
        Checks.due("house(1, 3)", x.house(1, 3), 2);
        Checks.stranger(x, 1, 1, 0, 4, 0, 5, 0);
        x.set(0, 0);
        x.tick(20);
        x.set(0, 1);
        x.send(0, 3, 0);
        Checks.due("rule(5)", x.rule(5), 25);
        x.tick(1);
        Checks.due("item(1, 0, 0), known and passed long ago", x.item(1, 0, 0), 3);
        Checks.stranger(x, 1, 0, 0, 3, 0, 1, 1);
        Checks.stranger(x, 1, 1, 0, 4, 0, 26, 0);
        waitingFor(20, 1);
        waitingFor(21, 0);
        waitingFor(3, 1);
        waitingFor(2, 0);
        downWaryHousePutsNoneDown();
    }

    /** The stranger is put down at 1 and asks so many ticks later. */
    private static void waitingFor(int ago, int passed) {
        WaryHouses x = Checks.told(4, "house;house wary;domain 1 0;box 0 0;");
        x.send(0, 3, 0);
        x.tick(1);
        x.set(0, 0);
        for (int i = 1; i < ago; i++) {
            x.tick(1);
        }
        x.set(0, 1);
        x.tick(1);
        Checks.due("house(1, 2) behind " + ago, x.house(1, 2), passed);
        Checks.stranger(x, 1, 0, 0, 3, 0, ago > 20 ? 1 + ago : 1, passed);
    }

    private static void downWaryHousePutsNoneDown() {
        WaryHouses x = Checks.told(5, "house;house wary;house;domain 1 0 2 1;box 0 0;");
        x.set(1, 0);
        x.send(0, 3, 0);
        x.tick(1);
        Checks.due("house(1, 3)", x.house(1, 3), 0);
        Checks.due("house(2, 2)", x.house(2, 2), 1);
        x.set(1, 1);
        x.tick(1);
        Checks.due("house(1, 3)", x.house(1, 3), 1);
        Checks.stranger(x, 1, 0, 2, 3, 0, 2, 0);
    }

    /** Eight are known; by the ninth the oldest goes; one that is put down anew is the latest. */
    private static void strangersGo() {
        WaryHouses x = Checks.told(4, "house;house wary;domain 1 0;box 0 0;");
        for (int from = 10; from < 18; from++) {
            x.send(0, from, 0);
        }
        x.tick(1);
        Checks.due("house(1, 3)", x.house(1, 3), 8);
        x.set(0, 0);
        x.tick(20);
        x.tick(1);
        x.set(0, 1);
        x.set(1, 0);
        x.tick(1);
        x.set(1, 1);
        Checks.due("rule(5)", x.rule(5), 23);
        Checks.stranger(x, 1, 0, 0, 10, 0, 1, 0);
        x.tick(2);
        Checks.due("house(1, 3)", x.house(1, 3), 8);
        for (int i = 0; i < 8; i++) {
            Checks.stranger(x, 1, i, 0, 10 + i, 0, 25, 0);
        }
        WaryHouses y = Checks.told(4, "house;house wary;domain 1 0;box 0 0;");
        y.send(0, 10, 0);
        y.tick(1);
        y.set(0, 0);
        y.tick(19);
        for (int from = 11; from < 18; from++) {
            y.send(0, from, 1);
        }
        y.tick(1);
        y.set(0, 1);
        y.tick(1);
        Checks.due("house(1, 3)", y.house(1, 3), 8);
        Checks.stranger(y, 1, 0, 0, 10, 0, 22, 0);
        Checks.stranger(y, 1, 1, 0, 11, 1, 22, 0);
        y.send(0, 18, 2);
        y.tick(1);
        Checks.due("house(1, 3)", y.house(1, 3), 8);
        Checks.stranger(y, 1, 0, 0, 11, 1, 22, 0);
        Checks.stranger(y, 1, 7, 0, 18, 2, 23, 0);
        Checks.due("stranger(1, 8, 0)", y.stranger(1, 8, 0), Checks.NONE);
        anewAmongOthers();
    }

    /** The one in the midst is put down anew: it is the last then, and not passed as the last one was. */
    private static void anewAmongOthers() {
        WaryHouses x = Checks.told(5, "house;house wary;house;domain 1 0;box 0 0;");
        x.send(0, 10, 0);
        x.send(2, 11, 0);
        x.send(0, 12, 0);
        x.tick(1);
        x.set(2, 0);
        x.tick(3);
        Checks.due("house(1, 4)", x.house(1, 4), 2);
        x.tick(17);
        x.set(2, 1);
        x.tick(1);
        Checks.due("house(1, 3)", x.house(1, 3), 3);
        Checks.stranger(x, 1, 0, 0, 10, 0, 1, 1);
        Checks.stranger(x, 1, 1, 0, 12, 0, 1, 1);
        Checks.stranger(x, 1, 2, 2, 11, 0, 22, 0);
        Checks.due("house(1, 4)", x.house(1, 4), 2);
    }

    /** What stays keeps its place; what comes to the house itself is behind all and waits for the next tick. */
    private static void order() {
        WaryHouses x = Checks.told(5, "house;domain 0 0;box 0 0;alias 0 1 0 0;list 0 2 0 0 0 3;");
        x.send(0, 4, 2);
        x.send(0, 4, 1);
        x.send(0, 4, 5);
        x.send(0, 4, 1);
        Checks.due("tick(1)", x.tick(1), 0);
        int[] letters = {1, 3, 0, 0, 4};
        int[] tos = {0, 0, 0, 3, 4};
        for (int i = 0; i < letters.length; i++) {
            Checks.due("item(0, " + i + ", 0)", x.item(0, i, 0), letters[i]);
            Checks.due("item(0, " + i + ", 2)", x.item(0, i, 2), tos[i]);
        }
        Checks.due("tick(1)", x.tick(1), 3);
        Checks.due("address(0, 2)", x.address(0, 2), 0);
    }

    private static void logIsLimited() {
        WaryHouses x = Checks.told(3, "house;domain 0 0;box 0 0;");
        for (int i = 0; i < 60; i++) {
            x.send(0, 0, i % 8);
        }
        Checks.due("log(0, 2)", x.log(0, 2), 0);
        Checks.due("log(59, 2)", x.log(59, 2), 59);
        Checks.due("log(60, 2)", x.log(60, 2), Checks.NONE);
        x.set(0, 1);
        x.tick(1);
        Checks.log(x, 0, 2, 1, 0, 0, 0);
        Checks.log(x, 1, 7, 1, 1, 0, 1);
        Checks.log(x, 59, 7, 1, 59, 0, 3);
        Checks.due("log(60, 0)", x.log(60, 0), Checks.NONE);
        x.send(0, 0, 0);
        Checks.due("rule(6)", x.rule(6), 113);
        Checks.log(x, 0, 7, 1, 1, 0, 1);
        Checks.log(x, 59, 0, 1, 112, 0, 0);
        Checks.due("rule(8)", x.rule(8), 61);
    }
}
