/** Promises 20 to 22: letters by a seed, images. */
public final class SeedTest {
    private static final String TEXT = "house;house wary;house;domain 0 0 1 2;domain 1 0;box 0 1;box 1 2;alias 0 3 1 2;"
            + "list 1 0 0 1 0 3 1 2;";

    public static void main(String[] args) {
        Checks.begin("SeedTest");
        refusedDraws();
        knownSeed();
        seeds();
        drawsWhenFull();
        wrongImages();
        images();
        imagesAreApart();
        imageHasAll();
        imageOfTheFirstHouse();
        Checks.finish("SeedTest");
    }

    private static void refusedDraws() {
        WaryHouses none = new WaryHouses();
        Checks.due("draw(1, 1), no houses", none.draw(1, 1), Checks.STATE);
        Checks.bad("draw, no houses", () -> none.draw(1, 0), () -> none.draw(1, 11));
        WaryHouses x = Checks.told(1, "house;");
        Checks.bad("draw", () -> x.draw(1, 0), () -> x.draw(1, 11), () -> x.draw(1, -1),
                () -> x.draw(1, Integer.MIN_VALUE), () -> x.draw(1, Integer.MAX_VALUE));
        Checks.due("rule(6)", x.rule(6), 0);
        Checks.due("draw(1, 1), one house", x.draw(1, 1), 1);
        Checks.due("item(0, 0, 2)", x.item(0, 0, 2), 1);
    }

    /** The first that this way of getting numbers gives by 1: 16838 5758 10113 17515 31051 5627 23010 7419 16212. */
    private static void knownSeed() {
        WaryHouses x = Checks.told(9, TEXT);
        Checks.due("draw(1, 3)", x.draw(1, 3), 3);
        int[][] want = {{2, 30, 1}, {1, 11, 27}, {0, 27, 20}};
        for (int i = 0; i < want.length; i++) {
            Checks.due("item(" + want[i][0] + ", 0, 0)", x.item(want[i][0], 0, 0), i);
            Checks.due("item(" + want[i][0] + ", 0, 1)", x.item(want[i][0], 0, 1), want[i][1]);
            Checks.due("item(" + want[i][0] + ", 0, 2)", x.item(want[i][0], 0, 2), want[i][2]);
            Checks.due("log(" + i + ", 3)", x.log(i, 3), want[i][0]);
            Checks.due("log(" + i + ", 0)", x.log(i, 0), 0);
        }
        Checks.due("rule(8)", x.rule(8), 3);
    }

    private static void seeds() {
        int[] seeds = {0, -1, Integer.MIN_VALUE, Integer.MAX_VALUE, 123456789};
        for (int seed : seeds) {
            WaryHouses x = Checks.told(9, TEXT);
            Checks.due("draw(" + seed + ", 10)", x.draw(seed, 10), 10);
            long state = seed & 0xffffffffL;
            for (int i = 0; i < 10; i++) {
                int[] got = new int[3];
                for (int j = 0; j < 3; j++) {
                    state = state * 1103515245L + 12345L & 0xffffffffL;
                    got[j] = (int) (state / 65536 % 32768);
                }
                Checks.due("log(" + i + ", 3) by " + seed, x.log(i, 3), got[0] % 3);
                Checks.due("log(" + i + ", 4) by " + seed, x.log(i, 4), got[2] % 32);
            }
        }
    }

    private static void drawsWhenFull() {
        WaryHouses x = Checks.told(9, TEXT);
        for (int i = 0; i < 55; i++) {
            x.send(0, 0, 0);
        }
        Checks.due("draw(7, 10), room for five", x.draw(7, 10), 5);
        Checks.due("draw(7, 10), full", x.draw(7, 10), 0);
        Checks.due("rule(6)", x.rule(6), 60);
    }

    private static void wrongImages() {
        WaryHouses x = new WaryHouses();
        Checks.bad("keep", () -> x.keep(-1), () -> x.keep(2), () -> x.keep(Integer.MAX_VALUE));
        Checks.bad("back", () -> x.back(-1), () -> x.back(2), () -> x.back(Integer.MIN_VALUE));
        Checks.due("back(0)", x.back(0), Checks.STATE);
        Checks.due("back(1)", x.back(1), Checks.STATE);
        Checks.due("keep(1) of a new object", x.keep(1), 0);
        Checks.due("back(0)", x.back(0), Checks.STATE);
        Checks.due("count(0)", x.count(0), 1);
        Checks.due("back(1)", x.back(1), 0);
    }

    private static void images() {
        WaryHouses x = drawn(3);
        Checks.due("keep(0)", x.keep(0), 0);
        Checks.due("keep(0)", x.keep(0), 1);
        Checks.due("count(0)", x.count(0), 1);
        x.feed('x');
        x.sheet(0, 1, 5);
        int items = x.rule(7);
        x.run(60);
        Checks.due("keep(1)", x.keep(1), 0);
        Checks.due("count(0)", x.count(0), 2);
        Checks.due("back(0)", x.back(0), items);
        Checks.due("count(1), not of the image", x.count(1), 1);
        Checks.due("count(2), not of the image", x.count(2), 5);
        Checks.due("count(0), images stay", x.count(0), 2);
        Checks.due("back(1)", x.back(1), 0);
        Checks.due("back(0) again", x.back(0), items);
    }

    /** What is done behind keep() or back() does not change the image. */
    private static void imagesAreApart() {
        int[] then = Snapshot.of(() -> broughtBack(0));
        for (int times = 1; times <= 3; times++) {
            int n = times;
            Snapshot.same("behind back(0), " + n + " times", then, Snapshot.of(() -> broughtBack(n)));
        }
    }

    private static WaryHouses broughtBack(int times) {
        WaryHouses x = drawn(11);
        x.keep(0);
        for (int i = 0; i < times; i++) {
            x.tick(4);
            x.set(2, 0);
            x.draw(i, 5);
            x.tick(3);
            x.back(0);
        }
        return x;
    }

    /** All goes on from an image as it went on from what it is an image of. */
    private static void imageHasAll() {
        for (int ticks = 1; ticks <= 20; ticks++) {
            int n = ticks;
            Snapshot.same("on from an image at " + n, Snapshot.of(() -> onFromAnImage(n, false)),
                    Snapshot.of(() -> onFromAnImage(n, true)));
        }
    }

    private static WaryHouses onFromAnImage(int ticks, boolean back) {
        WaryHouses x = drawn(ticks);
        for (int i = 0; i < 8; i++) {
            x.send(2, i, 1);
        }
        x.tick(ticks);
        x.set(1, ticks % 2);
        x.keep(1);
        if (back) {
            x.tick(5);
            x.draw(1, 10);
            x.set(1, 1);
            x.run(60);
            x.back(1);
        }
        x.tick(5);
        return x;
    }

    private static WaryHouses drawn(int seed) {
        WaryHouses x = Scenes.of(TEXT);
        x.draw(seed, 10);
        x.tick(2);
        return x;
    }

    /** The strangers of the first house, too. */
    private static void imageOfTheFirstHouse() {
        WaryHouses x = Checks.told(4, "house wary;house;domain 0 0;box 0 0;");
        x.keep(0);
        x.send(1, 7, 0);
        x.tick(1);
        x.keep(1);
        x.back(0);
        Checks.due("house(0, 3) of none", x.house(0, 3), 0);
        x.back(1);
        Checks.due("house(0, 3)", x.house(0, 3), 1);
        Checks.due("stranger(0, 0, 1)", x.stranger(0, 0, 1), 7);
    }
}
