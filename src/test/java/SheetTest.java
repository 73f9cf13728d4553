/** Promises 23 to 26: sheets, letters from them, counts. */
public final class SheetTest {
    public static void main(String[] args) {
        Checks.begin("SheetTest");
        newSheets();
        laying();
        posting();
        postingNone();
        postingFaults();
        postingRefused();
        postingWhenFull();
        counting();
        Checks.finish("SheetTest");
    }

    private static void lay(WaryHouses x, int k, int... cells) {
        for (int i = 0; i < cells.length; i++) {
            Checks.due("lay(" + k + ", " + i + ", " + cells[i] + ")", x.lay(k, i, cells[i]), 1);
        }
    }

    private static void newSheets() {
        WaryHouses x = new WaryHouses();
        Checks.bad("sheet", () -> x.sheet(-1, 0, 1), () -> x.sheet(4, 0, 1), () -> x.sheet(0, -1, 1),
                () -> x.sheet(0, 2, 1), () -> x.sheet(0, 0, 41), () -> x.sheet(0, 0, Integer.MAX_VALUE),
                () -> x.sheet(4, 0, -1), () -> x.sheet(0, 2, -1));
        Checks.due("count(2)", x.count(2), Checks.NONE);
        Checks.due("sheet(0, 0, -1)", x.sheet(0, 0, -1), -14);
        Checks.due("sheet(3, 1, least)", x.sheet(3, 1, Integer.MIN_VALUE), -14);
        Checks.due("count(2)", x.count(2), Checks.NONE);
        Checks.due("sheet(0, 0, 0)", x.sheet(0, 0, 0), 1);
        Checks.due("count(2)", x.count(2), 0);
        Checks.due("sheet(0, 1, 40)", x.sheet(0, 1, 40), 1);
        Checks.due("count(2)", x.count(2), 40);
        Checks.due("sheet(0, 1, -1)", x.sheet(0, 1, -1), -14);
        Checks.due("sheet(0, 1, 41)", x.sheet(0, 1, 41), Checks.BAD);
        Checks.due("count(2), it stays", x.count(2), 40);
        Checks.due("sheet(3, 0, 7)", x.sheet(3, 0, 7), 1);
        Checks.due("count(2), of sheet 0", x.count(2), 40);
    }

    private static void laying() {
        WaryHouses x = new WaryHouses();
        Checks.bad("lay", () -> x.lay(-1, 0, 0), () -> x.lay(4, 0, 0), () -> x.lay(Integer.MAX_VALUE, -1, 0));
        Checks.due("lay(2, 0, 0)", x.lay(2, 0, 0), -11);
        Checks.due("lay(2, -1, 0)", x.lay(2, -1, 0), -11);
        x.sheet(2, 0, 3);
        Checks.due("lay(2, -1, 0)", x.lay(2, -1, 0), -13);
        Checks.due("lay(2, 3, 0)", x.lay(2, 3, 0), -13);
        Checks.due("lay(2, least, 0)", x.lay(2, Integer.MIN_VALUE, 0), -13);
        Checks.due("lay(2, greatest, 0)", x.lay(2, Integer.MAX_VALUE, 0), -13);
        Checks.due("lay(2, 2, greatest)", x.lay(2, 2, Integer.MAX_VALUE), 1);
        x.sheet(2, 1, 0);
        Checks.due("lay(2, 0, 0) of no cells", x.lay(2, 0, 0), -13);
    }

    private static void posting() {
        WaryHouses x = Checks.told(4, "house;house;domain 0 0;box 0 0;");
        x.sheet(1, 0, 7);
        lay(x, 1, 99, 1, 31, 0, 0, 7, 30);
        Checks.due("post(1, 0, 1, 2)", x.post(1, 0, 1, 2), 2);
        Checks.due("item(1, 0, 0)", x.item(1, 0, 0), 0);
        Checks.due("item(1, 0, 1)", x.item(1, 0, 1), 31);
        Checks.due("item(1, 0, 2)", x.item(1, 0, 2), 0);
        Checks.due("item(1, 0, 5)", x.item(1, 0, 5), 1);
        Checks.due("item(0, 0, 0)", x.item(0, 0, 0), 1);
        Checks.due("item(0, 0, 1)", x.item(0, 0, 1), 7);
        Checks.due("item(0, 0, 2)", x.item(0, 0, 2), 30);
        Checks.due("rule(8)", x.rule(8), 2);
        Checks.due("log(1, 4)", x.log(1, 4), 30);
        x.sheet(0, 1, 40);
        Checks.due("post(0, 1, 22, 6), cells 0", x.post(0, 1, 22, 6), 6);
        Checks.due("rule(7)", x.rule(7), 8);
        x.sheet(1, 0, 3);
        lay(x, 1, 256, -256 + 5, 512 + 6);
        Checks.due("post(1, 0, 0, 1), the lowest bits", x.post(1, 0, 0, 1), 1);
        Checks.due("item(0, 7, 1)", x.item(0, 7, 1), 5);
        Checks.due("item(0, 7, 2)", x.item(0, 7, 2), 6);
    }

    private static void postingNone() {
        WaryHouses x = new WaryHouses();
        Checks.due("post(0, 0, 0, 0) of nothing", x.post(0, 0, 0, 0), -11);
        x.sheet(0, 1, 2);
        Checks.due("post(0, 1, 0, 0)", x.post(0, 1, 0, 0), 0);
        Checks.due("post(0, 1, 2, 0)", x.post(0, 1, 2, 0), 0);
        Checks.due("post(0, 1, 3, 0)", x.post(0, 1, 3, 0), -13);
        Checks.due("post(0, 1, -1, 0)", x.post(0, 1, -1, 0), -13);
        Checks.due("post(0, 0, 0, 0)", x.post(0, 0, 0, 0), -12);
        x.sheet(0, 0, 0);
        Checks.due("post(0, 0, 0, 0) of no cells", x.post(0, 0, 0, 0), 0);
    }

    private static void postingFaults() {
        WaryHouses x = Checks.told(3, "house;domain 0 0;box 0 0;");
        Checks.bad("post", () -> x.post(-1, 0, 0, 1), () -> x.post(4, 0, 0, 1), () -> x.post(0, -1, 0, 1),
                () -> x.post(0, 2, 0, 1), () -> x.post(0, 0, 0, -1), () -> x.post(0, 0, 0, 7),
                () -> x.post(0, 0, 0, Integer.MAX_VALUE), () -> x.post(0, 0, 0, Integer.MIN_VALUE));
        Checks.due("post(2, 0, 9, 1)", x.post(2, 0, 9, 1), -11);
        x.sheet(2, 1, 6);
        Checks.due("post(2, 0, 9, 1)", x.post(2, 0, 9, 1), -12);
        Checks.due("post(2, 1, 4, 1)", x.post(2, 1, 4, 1), -13);
        Checks.due("post(2, 1, -1, 1)", x.post(2, 1, -1, 1), -13);
        Checks.due("post(2, 1, greatest, 1)", x.post(2, 1, Integer.MAX_VALUE, 1), -13);
        Checks.due("post(2, 1, greatest less 2, 1)", x.post(2, 1, Integer.MAX_VALUE - 2, 1), -13);
        Checks.due("post(2, 1, least, 1)", x.post(2, 1, Integer.MIN_VALUE, 1), -13);
        Checks.due("post(2, 1, 0, 3)", x.post(2, 1, 0, 3), -13);
        Checks.due("rule(6)", x.rule(6), 0);
        Checks.due("post(2, 1, 3, 1)", x.post(2, 1, 3, 1), 1);
        x.sheet(3, 0, 6);
        Checks.due("post(3, 1, 0, 1)", x.post(3, 1, 0, 1), -12);
        Checks.due("post(3, 0, 0, 2)", x.post(3, 0, 0, 2), 2);
    }

    private static void postingRefused() {
        WaryHouses x = Checks.told(3, "house;domain 0 0;box 0 0;");
        x.sheet(0, 1, 18);
        x.lay(0, 15, 1);
        Checks.due("post, the 6th has no house", x.post(0, 1, 0, 6), -25);
        Checks.due("rule(6)", x.rule(6), 0);
        Checks.due("post of five", x.post(0, 1, 0, 5), 5);
        x.lay(0, 4, 32);
        Checks.due("post, two are refused", x.post(0, 1, 0, 6), -21);
        x.lay(0, 2, -1);
        Checks.due("post, three are refused", x.post(0, 1, 0, 6), -20);
        Checks.due("rule(6)", x.rule(6), 5);
        x.sheet(0, 0, 3);
        x.lay(0, 1, 200);
        Checks.due("post, a byte with a sign", x.post(0, 0, 0, 1), -20);
        WaryHouses none = new WaryHouses();
        none.sheet(0, 0, 3);
        Checks.due("post, no houses", none.post(0, 0, 0, 1), -20);
    }

    private static void postingWhenFull() {
        WaryHouses x = Checks.told(3, "house;domain 0 0;box 0 0;");
        x.sheet(0, 1, 18);
        for (int i = 0; i < 56; i++) {
            x.send(0, 0, 0);
        }
        Checks.due("post of five, room for four", x.post(0, 1, 0, 5), -24);
        Checks.due("rule(7)", x.rule(7), 56);
        x.lay(0, 16, 32);
        Checks.due("post of six, the first that is refused", x.post(0, 1, 0, 6), -24);
        Checks.due("post of four", x.post(0, 1, 0, 4), 4);
        Checks.due("post of one, full", x.post(0, 1, 0, 1), -20);
        Checks.due("post of none, full", x.post(0, 1, 0, 0), 0);
        Checks.due("rule(6)", x.rule(6), 60);
    }

    private static void counting() {
        WaryHouses x = new WaryHouses();
        Checks.bad("count", () -> x.count(-1), () -> x.count(3), () -> x.count(Integer.MAX_VALUE),
                () -> x.count(Integer.MIN_VALUE));
        x.feed('a');
        x.feed('b');
        Checks.due("count(1)", x.count(1), 2);
        x.keep(0);
        Checks.due("count(0)", x.count(0), 1);
        x.keep(1);
        x.keep(1);
        Checks.due("count(0)", x.count(0), 2);
        x.text();
        Checks.due("count(0), a fault", x.count(0), 2);
        Checks.due("count(1)", x.count(1), 0);
        x.text();
        Checks.due("count(0), a text", x.count(0), 0);
    }
}
