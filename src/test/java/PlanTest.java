/** Promises 6 to 11 and 17: what a text told, where a name leads, whom a house asks. */
public final class PlanTest {
    private static final String TEXT = "house;house wary;house;house;domain 3 5 2 2 1 2;domain 0 1;domain;"
            + "box 0 1;alias 0 2 0 1;list 1 0 0 1 0 2 1 3 1 0;box 1 3;";

    public static void main(String[] args) {
        Checks.begin("PlanTest");
        rules();
        houses();
        receivers();
        addresses();
        leading();
        reaching();
        asking();
        Checks.finish("PlanTest");
    }

    private static void rules() {
        WaryHouses x = Checks.told(11, TEXT);
        int[] want = {4, 3, 2, 1, 1};
        for (int what = 0; what < want.length; what++) {
            Checks.due("rule(" + what + ")", x.rule(what), want[what]);
        }
        for (int what = 5; what <= 17; what++) {
            Checks.due("rule(" + what + ")", x.rule(what), 0);
        }
        Checks.bad("rule", () -> x.rule(-1), () -> x.rule(18), () -> x.rule(Integer.MIN_VALUE),
                () -> x.rule(Integer.MAX_VALUE));
    }

    private static void houses() {
        WaryHouses x = Checks.told(11, TEXT);
        int[] wary = {0, 1, 0, 0};
        int[] last = {1, 1, 1, 0};
        for (int h = 0; h < 4; h++) {
            Checks.due("house(" + h + ", 0)", x.house(h, 0), wary[h]);
            Checks.due("house(" + h + ", 1)", x.house(h, 1), 1);
            Checks.due("house(" + h + ", 2)", x.house(h, 2), 0);
            Checks.due("house(" + h + ", 3)", x.house(h, 3), 0);
            Checks.due("house(" + h + ", 4)", x.house(h, 4), 0);
            Checks.due("house(" + h + ", 5)", x.house(h, 5), last[h]);
        }
        Checks.bad("house", () -> x.house(-1, 0), () -> x.house(4, 0), () -> x.house(0, -1), () -> x.house(0, 6),
                () -> x.house(Integer.MAX_VALUE, 0), () -> x.house(0, Integer.MIN_VALUE));
        WaryHouses many = Checks.told(5, "house;domain 0 9;domain 0 0;domain;domain 0 1;");
        Checks.due("house(0, 5) of three domains", many.house(0, 5), 3);
    }

    private static void receivers() {
        WaryHouses x = Checks.told(11, TEXT);
        Checks.row("receiver(0, i, 0)", i -> x.receiver(0, i, 0), 3, 2, 1);
        Checks.row("receiver(0, i, 1)", i -> x.receiver(0, i, 1), 5, 2, 2);
        Checks.row("receiver(0, i, 2)", i -> x.receiver(0, i, 2), 0, 1, 1);
        Checks.row("receiver(1, i, 0)", i -> x.receiver(1, i, 0), 0);
        Checks.row("receiver(1, i, 1)", i -> x.receiver(1, i, 1), 1);
        Checks.row("receiver(1, i, 2)", i -> x.receiver(1, i, 2), 1);
        Checks.row("receiver(2, i, 0)", i -> x.receiver(2, i, 0));
        Checks.bad("receiver", () -> x.receiver(-1, 0, 0), () -> x.receiver(3, 0, 0), () -> x.receiver(0, -1, 0),
                () -> x.receiver(0, 0, -1), () -> x.receiver(0, 0, 3), () -> x.receiver(0, 9, 3),
                () -> x.receiver(2, 0, 3));
    }

    private static void addresses() {
        WaryHouses x = Checks.told(11, TEXT);
        for (int a = 0; a < 32; a++) {
            int kind = a == 1 || a == 11 ? 1 : a == 2 ? 2 : a == 8 ? 3 : 0;
            Checks.due("address(" + a + ", 0)", x.address(a, 0), kind);
            Checks.due("address(" + a + ", 1)", x.address(a, 1), kind == 1 ? 0 : kind == 3 ? 4 : Checks.NONE);
            Checks.due("address(" + a + ", 2)", x.address(a, 2), Checks.NONE);
            Checks.due("address(" + a + ", 3)", x.address(a, 3), Checks.NONE);
        }
        Checks.bad("address", () -> x.address(-1, 0), () -> x.address(32, 0), () -> x.address(0, -1),
                () -> x.address(0, 4), () -> x.address(1, 4), () -> x.address(Integer.MIN_VALUE, 0));
    }

    private static void leading() {
        WaryHouses x = Checks.told(11, TEXT);
        Checks.row("leads(8, i)", i -> x.leads(8, i), 1, 2, 11, 8);
        Checks.row("leads(2, i)", i -> x.leads(2, i), 1);
        Checks.row("leads(1, i)", i -> x.leads(1, i));
        Checks.row("leads(31, i)", i -> x.leads(31, i));
        Checks.bad("leads", () -> x.leads(-1, 0), () -> x.leads(32, 0), () -> x.leads(8, -1),
                () -> x.leads(31, Integer.MIN_VALUE));
        WaryHouses away = Checks.told(3, "domain;alias 0 0 3 7;list 0 1 2 2 0 0;");
        Checks.row("leads(0, i)", i -> away.leads(0, i), 31);
        Checks.row("leads(1, i)", i -> away.leads(1, i), 18, 0);
    }

    private static void reaching() {
        WaryHouses x = Checks.told(11, TEXT);
        Checks.row("reaches(8, i)", i -> x.reaches(8, i), 1, 11);
        Checks.row("reaches(2, i)", i -> x.reaches(2, i), 1);
        Checks.row("reaches(11, i)", i -> x.reaches(11, i), 11);
        Checks.row("reaches(0, i)", i -> x.reaches(0, i));
        Checks.row("reaches(31, i)", i -> x.reaches(31, i));
        Checks.bad("reaches", () -> x.reaches(-1, 0), () -> x.reaches(32, 0), () -> x.reaches(8, -1),
                () -> x.reaches(31, Integer.MIN_VALUE));
        WaryHouses down = Checks.told(9, "domain;box 0 0;alias 0 1 0 0;alias 0 2 0 1;alias 0 3 0 2;alias 0 4 0 3;"
                + "alias 0 5 0 4;alias 0 6 0 5;alias 0 7 0 6;");
        for (int a = 0; a < 8; a++) {
            int from = a;
            Checks.row("reaches(" + a + ", i), down a chain", i -> down.reaches(from, i), 0);
        }
        WaryHouses up = Checks.told(6, "domain;alias 0 0 0 1;alias 0 1 0 2;alias 0 2 0 3;alias 0 3 0 4;box 0 4;");
        Checks.row("reaches(0, i), up a chain", i -> up.reaches(0, i), 4);
        WaryHouses rounds = Checks.told(9, "domain;domain;domain;domain;list 3 7 0 0 3 6;list 3 6 3 7 0 1;box 3 5;"
                + "alias 0 0 3 5;alias 0 1 0 1;");
        Checks.row("reaches(31, i), lists within lists", i -> rounds.reaches(31, i), 29);
        Checks.row("reaches(30, i), lists within lists", i -> rounds.reaches(30, i), 29);
        Checks.row("reaches(1, i), an alias of itself", i -> rounds.reaches(1, i));
    }

    private static void asking() {
        WaryHouses x = Checks.told(11, TEXT);
        Checks.row("asks(0, 0, i)", i -> x.asks(0, 0, i), 1, 2, 3);
        Checks.row("asks(3, 0, i)", i -> x.asks(3, 0, i), 1, 2);
        Checks.row("asks(1, 0, i)", i -> x.asks(1, 0, i));
        Checks.row("asks(2, 0, i)", i -> x.asks(2, 0, i));
        Checks.row("asks(0, 1, i)", i -> x.asks(0, 1, i));
        Checks.row("asks(3, 1, i)", i -> x.asks(3, 1, i), 0);
        Checks.row("asks(3, 2, i)", i -> x.asks(3, 2, i));
        x.set(1, 0);
        Checks.row("asks(0, 0, i), 1 down", i -> x.asks(0, 0, i), 1, 2, 3);
        Checks.bad("asks", () -> x.asks(-1, 0, 0), () -> x.asks(4, 0, 0), () -> x.asks(0, -1, 0),
                () -> x.asks(0, 3, 0), () -> x.asks(0, 0, -1), () -> x.asks(1, 0, Integer.MIN_VALUE));
        WaryHouses ranks = Checks.told(8, "house;house;house;house;house;domain 4 9 3 0 2 4;domain 4 3 2 3 3 3;"
                + "domain 1 9 2 9 0 8;");
        Checks.row("asks(0, 0, i)", i -> ranks.asks(0, 0, i), 3, 2, 4);
        Checks.row("asks(4, 0, i)", i -> ranks.asks(4, 0, i), 3, 2);
        Checks.row("asks(2, 0, i)", i -> ranks.asks(2, 0, i), 3);
        Checks.row("asks(3, 0, i)", i -> ranks.asks(3, 0, i));
        Checks.row("asks(0, 1, i)", i -> ranks.asks(0, 1, i), 2, 3, 4);
        Checks.row("asks(4, 1, i)", i -> ranks.asks(4, 1, i));
        Checks.row("asks(2, 2, i)", i -> ranks.asks(2, 2, i), 0);
        Checks.row("asks(3, 2, i)", i -> ranks.asks(3, 2, i), 0, 1, 2);
    }
}
