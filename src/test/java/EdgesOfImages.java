import java.util.function.Supplier;
import java.util.function.UnaryOperator;

/** Promises 20 to 22: letters by a seed, images. */
final class EdgesOfImages {
    private static final String HOUSES = "house;house;house;house;house;";

    private EdgesOfImages() {
    }

    static void check() {
        drawLeastAndMost();
        seedsWrapAround();
        bitsThatAreGot();
        eachIsTried();
        drawBeside();
        drawWithoutHouses();
        imageOfNothing();
        imageInPlaceOfAnother();
        keepBeside();
        imageHasAll();
        imageOfSixty();
        imagesAreNoPartOfIt();
        tapeAndSheetsAreNoPart();
        backBeside();
        backOfNone();
    }

    private static void drawLeastAndMost() {
        Checks.of(20, "By a seed, n (1 to 10) LETTERS as by send(), each tried.");
        for (int n = 1; n <= 10; n++) {
            WaryHouses x = Checks.told(5, HOUSES);
            x.tick(2);
            Checks.due("draw(1, " + n + ")", x.draw(1, n), n);
            Checks.due("rule(6)", x.rule(6), n);
            Checks.due("rule(8)", x.rule(8), n);
            Checks.due("log(" + n + ", 0)", x.log(n, 0), Checks.NONE);
            for (int i = 0; i < n; i++) {
                Checks.due("log(" + i + ", 0)", x.log(i, 0), 0);
                Checks.due("log(" + i + ", 1)", x.log(i, 1), 2);
                Checks.due("log(" + i + ", 2)", x.log(i, 2), i);
            }
        }
    }

    /** The numbers that are got are told apart by 5 houses, all from and to; 2 to the 32nd is where the seed wraps around. */
    private static void seedsWrapAround() {
        Checks.of(20, "To get: the seed becomes seed times 1103515245 and 12345; bits 16 to 30 of it are got. Each: got modulo HOUSES the"
                + " HOUSE, got modulo 32 FROM, got modulo 32 TO:");
        int[] seeds = {0, 1, -1, 2, 12345, 65535, 65536, -65536, Integer.MAX_VALUE, Integer.MIN_VALUE, Integer.MAX_VALUE - 1,
            Integer.MIN_VALUE + 1, 1 << 30, 0x5eed5eed, -1103515245};
        for (int houses = 1; houses <= 5; houses++) {
            for (int seed : seeds) {
                drawn(houses, seed);
            }
        }
    }

    private static void drawn(int houses, int seed) {
        WaryHouses x = Checks.told(houses, "house;".repeat(houses));
        Checks.due("draw(" + seed + ", 10)", x.draw(seed, 10), 10);
        java.math.BigInteger state = java.math.BigInteger.valueOf(seed);
        int[] came = new int[5];
        for (int i = 0; i < 10; i++) {
            int[] got = new int[3];
            for (int j = 0; j < 3; j++) {
                state = state.multiply(java.math.BigInteger.valueOf(1103515245)).add(java.math.BigInteger.valueOf(12345));
                got[j] = state.shiftRight(16).and(java.math.BigInteger.valueOf(0x7fff)).intValue();
            }
            int h = got[0] % houses;
            Checks.log(x, i, 0, 0, i, h, got[2] % 32);
            Checks.item(x, h, came[h], i, got[1] % 32, got[2] % 32, 0, 0, 1, 0);
            came[h]++;
        }
    }

    /** By 1: 16838 5758 10113 17515 31051 5627; by 0: 0 (of 12345), then 21468. */
    private static void bitsThatAreGot() {
        Checks.of(20, "bits 16 to 30 of it are got.");
        WaryHouses x = Checks.told(5, HOUSES);
        x.draw(1, 2);
        Checks.item(x, 16838 % 5, 0, 0, 5758 % 32, 10113 % 32, 0, 0, 1, 0);
        Checks.item(x, 17515 % 5, 0, 1, 31051 % 32, 5627 % 32, 0, 0, 1, 0);
        WaryHouses zero = Checks.told(5, HOUSES);
        zero.draw(0, 1);
        Checks.item(zero, 0, 0, 0, 21468 % 32, 9988 % 32, 0, 0, 1, 0);
    }

    private static void eachIsTried() {
        Checks.of(20, "how many were sent.");
        WaryHouses x = Checks.told(1, "house;");
        for (int i = 0; i < 53; i++) {
            x.send(0, 0, 0);
        }
        Checks.due("draw(7, 10), room for seven", x.draw(7, 10), 7);
        Checks.due("rule(7)", x.rule(7), 60);
        Checks.due("draw(7, 1), full", x.draw(7, 1), 0);
        Checks.due("draw(7, 10), full", x.draw(7, 10), 0);
        Checks.due("rule(6)", x.rule(6), 60);
        Checks.due("log(59, 2)", x.log(59, 2), 59);
    }

    private static void drawBeside() {
        Checks.of(20, "BAD;");
        WaryHouses x = Checks.told(1, "house;");
        Checks.badBeside("draw(1, n)", 1, 10, n -> x.draw(1, n));
        Checks.due("rule(6)", x.rule(6), 0);
        WaryHouses none = new WaryHouses();
        Checks.badBeside("draw(1, n), no houses either", 1, 10, n -> none.draw(1, n));
        WaryHouses full = Scenes.full();
        Checks.badBeside("draw(1, n), full", 1, 10, n -> full.draw(1, n));
    }

    private static void drawWithoutHouses() {
        Checks.of(20, "STATE: there are no HOUSES.");
        WaryHouses x = new WaryHouses();
        Checks.due("draw(1, 1)", x.draw(1, 1), Checks.STATE);
        Checks.due("draw(0, 10)", x.draw(0, 10), Checks.STATE);
        WaryHouses domain = Checks.told(1, "domain;");
        Checks.due("draw(1, 1), domains alone", domain.draw(1, 1), Checks.STATE);
        Checks.tell(domain, "house;");
        Checks.due("draw(1, 1), a house", domain.draw(1, 1), 1);
        domain.text();
        Checks.due("draw(1, 1), none any more", domain.draw(1, 1), Checks.STATE);
        Checks.due("rule(6)", domain.rule(6), 0);
    }

    private static void imageOfNothing() {
        Checks.of(21, "whether there was one (1, 0).");
        WaryHouses x = new WaryHouses();
        Checks.due("keep(0)", x.keep(0), 0);
        Checks.due("keep(0), again", x.keep(0), 1);
        Checks.due("count(0)", x.count(0), 1);
        Checks.due("keep(1)", x.keep(1), 0);
        Checks.due("keep(1), again", x.keep(1), 1);
        Checks.due("count(0)", x.count(0), 2);
        x.tick(5);
        Checks.due("back(1), of a new object", x.back(1), 0);
        Checks.due("rule(5)", x.rule(5), 0);
        x.text();
        Checks.due("keep(0), gone by a text", x.keep(0), 0);
        Checks.due("count(0)", x.count(0), 1);
    }

    private static void imageInPlaceOfAnother() {
        Checks.of(21, "IMAGE k (0, 1) is all that a text tells and all that comes of ANEW, but IMAGES:");
        WaryHouses x = Checks.told(1, "house;");
        x.keep(0);
        x.send(0, 1, 2);
        x.keep(1);
        x.send(0, 3, 4);
        x.keep(0);
        x.tick(3);
        Checks.due("back(0), the later one", x.back(0), 2);
        Checks.due("back(1)", x.back(1), 1);
        Checks.due("back(0)", x.back(0), 2);
        Checks.due("item(0, 1, 1)", x.item(0, 1, 1), 3);
    }

    private static void keepBeside() {
        Checks.of(21, "BAD.");
        WaryHouses x = Checks.told(1, "house;");
        Checks.badBeside("keep", 0, 1, x::keep);
        Checks.due("count(0)", x.count(0), 0);
    }

    /** Whatever is done behind keep(), by back() all is as it was then, and goes on as it would have. */
    private static void imageHasAll() {
        Checks.of(22, "All is as IMAGE k: ITEMS.");
        int[] then = Snapshot.of(() -> kept(x -> x));
        Snapshot.same("behind ticks", then, Snapshot.of(() -> kept(EdgesOfImages::ticked)));
        Snapshot.same("behind letters", then, Snapshot.of(() -> kept(EdgesOfImages::drawn)));
        Snapshot.same("behind another image", then, Snapshot.of(() -> kept(EdgesOfImages::backTwice)));
        int[] later = Snapshot.of(() -> ticked(kept(x -> x)));
        Snapshot.same("on from an image", later, Snapshot.of(() -> ticked(kept(EdgesOfImages::ticked))));
        Snapshot.same("on from an image, again", later, Snapshot.of(() -> ticked(kept(EdgesOfImages::backTwice))));
        wayBack("wary", Scenes::wary);
        wayBack("full", Scenes::full);
        wayBack("marked", Scenes::marked);
        WaryHouses x = Scenes.busy();
        x.keep(0);
        x.run(60);
        Checks.due("back(0)", x.back(0), 2);
        Checks.due("rule(7)", x.rule(7), 2);
    }

    private static void wayBack(String scene, Supplier<WaryHouses> maker) {
        int[] then = Snapshot.of(() -> {
            WaryHouses x = maker.get();
            x.keep(0);
            return x;
        });
        Snapshot.same("from elsewhere, " + scene, then, Snapshot.of(() -> {
            WaryHouses x = maker.get();
            x.keep(0);
            drawn(x);
            x.run(60);
            drawn(x);
            x.back(0);
            return x;
        }));
    }

    private static WaryHouses kept(UnaryOperator<WaryHouses> between) {
        WaryHouses x = Scenes.busy();
        x.keep(0);
        between.apply(x);
        x.back(0);
        return x;
    }

    private static WaryHouses ticked(WaryHouses x) {
        x.set(0, 0);
        x.tick(2);
        x.set(0, 1);
        x.set(1, 1);
        x.tick(4);
        return x;
    }

    private static WaryHouses drawn(WaryHouses x) {
        for (int i = 0; i < 6; i++) {
            x.draw(i, 10);
        }
        x.tick(20);
        return x;
    }

    private static WaryHouses backTwice(WaryHouses x) {
        x.back(1);
        drawn(x);
        x.back(0);
        x.tick(20);
        x.back(1);
        return x;
    }

    private static void imageOfSixty() {
        Checks.of(22, "All is as IMAGE k: ITEMS.");
        WaryHouses x = Scenes.full();
        x.keep(0);
        x.set(1, 1);
        x.tick(20);
        Checks.due("rule(7)", x.rule(7), 0);
        Checks.due("back(0)", x.back(0), 60);
        Checks.due("rule(7)", x.rule(7), 60);
        Checks.due("house(1, 2)", x.house(1, 2), 55);
        Checks.due("send, full", x.send(0, 0, 0), Checks.FULL);
        for (int i = 0; i < 55; i++) {
            Checks.due("item(1, " + i + ", 0)", x.item(1, i, 0), i);
        }
        Checks.due("tick(1)", x.tick(1), 5);
        WaryHouses none = Checks.told(1, "house;");
        none.keep(1);
        for (int i = 0; i < 60; i++) {
            none.send(0, 0, 0);
        }
        Checks.due("back(1), of no items", none.back(1), 0);
        Checks.due("item(0, 0, 0)", none.item(0, 0, 0), Checks.NONE);
        Checks.due("send, the first number", none.send(0, 0, 0), 0);
    }

    private static void imagesAreNoPartOfIt() {
        Checks.of(21, "IMAGE k (0, 1) is all that a text tells and all that comes of ANEW, but IMAGES:");
        WaryHouses x = Checks.told(1, "house;");
        x.keep(0);
        x.tick(1);
        x.keep(1);
        x.back(0);
        Checks.due("count(0), the one that was not there then", x.count(0), 2);
        Checks.due("back(1)", x.back(1), 0);
        Checks.due("rule(5)", x.rule(5), 1);
        Checks.due("back(0), it is not used up", x.back(0), 0);
        Checks.due("rule(5)", x.rule(5), 0);
    }

    private static void tapeAndSheetsAreNoPart() {
        Checks.of(21, "IMAGE k (0, 1) is all that a text tells and all that comes of ANEW, but IMAGES:");
        WaryHouses x = Checks.told(1, "house;");
        x.keep(0);
        Checks.feed(x, ".");
        x.text();
        Checks.feed(x, "house;domain;");
        x.sheet(0, 1, 9);
        x.back(0);
        Checks.due("count(1)", x.count(1), 13);
        Checks.due("count(2)", x.count(2), 9);
        Checks.due("fault(), of the latest text()", x.fault(), 1);
        Checks.due("text()", x.text(), 2);
    }

    private static void backBeside() {
        Checks.of(22, "BAD;");
        WaryHouses x = Checks.told(1, "house;");
        x.keep(0);
        x.keep(1);
        x.tick(1);
        Checks.badBeside("back", 0, 1, x::back);
        Checks.due("rule(5)", x.rule(5), 1);
        Checks.badBeside("back of a new object", 0, 1, new WaryHouses()::back);
    }

    private static void backOfNone() {
        Checks.of(22, "STATE: there is none.");
        WaryHouses x = Checks.told(1, "house;");
        x.tick(1);
        Checks.due("back(0)", x.back(0), Checks.STATE);
        Checks.due("back(1)", x.back(1), Checks.STATE);
        Checks.due("rule(5)", x.rule(5), 1);
        x.keep(0);
        Checks.due("back(1), the other is kept", x.back(1), Checks.STATE);
        WaryHouses one = Checks.told(1, "house;");
        one.keep(1);
        Checks.due("back(0), the other is kept", one.back(0), Checks.STATE);
        Checks.due("back(1)", one.back(1), 0);
        one.text();
        Checks.due("back(1), gone by a text", one.back(1), Checks.STATE);
    }
}
