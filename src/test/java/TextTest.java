/** Promises 1 to 5: a new object, the tape, the text and its first fault. */
public final class TextTest {
    public static void main(String[] args) {
        Checks.begin("TextTest");
        newObject();
        feeding();
        ending();
        takenTexts();
        noToken();
        canNotStand();
        outOfBounds();
        twice();
        tooMany();
        notThere();
        firstOfSeveral();
        refusedTextChangesNothing();
        takenTextBeginsAnew();
        Checks.finish("TextTest");
    }

    private static void newObject() {
        WaryHouses x = new WaryHouses();
        for (int what = 0; what <= 17; what++) {
            Checks.due("rule(" + what + ") of a new object", x.rule(what), 0);
        }
        Checks.due("fault()", x.fault(), 0);
        Checks.due("count(0)", x.count(0), 0);
        Checks.due("count(1)", x.count(1), 0);
        Checks.due("count(2)", x.count(2), Checks.NONE);
        for (int k = 0; k < 4; k++) {
            Checks.due("lay(" + k + ", 0, 0)", x.lay(k, 0, 0), -11);
            Checks.due("post(" + k + ", 0, 0, 0)", x.post(k, 0, 0, 0), -11);
        }
        Checks.due("log(0, 0)", x.log(0, 0), Checks.NONE);
        Checks.due("address(0, 0)", x.address(0, 0), 0);
        Checks.bad("no houses, no domains", () -> x.house(0, 0), () -> x.receiver(0, 0, 0), () -> x.asks(0, 0, 0),
                () -> x.send(0, 0, 0), () -> x.set(0, 1), () -> x.item(0, 0, 0), () -> x.stranger(0, 0, 0));
    }

    private static void feeding() {
        WaryHouses x = new WaryHouses();
        Checks.bad("feed", () -> x.feed(-1), () -> x.feed(128), () -> x.feed(Integer.MIN_VALUE),
                () -> x.feed(Integer.MAX_VALUE));
        Checks.due("feed(0)", x.feed(0), 1);
        Checks.due("feed(127)", x.feed(127), 2);
        for (int n = 3; n <= 200; n++) {
            Checks.due("feed(32)", x.feed(32), n);
        }
        Checks.due("feed(32) on a full tape", x.feed(32), Checks.FULL);
        Checks.due("feed(128) on a full tape", x.feed(128), Checks.BAD);
        Checks.due("count(1)", x.count(1), 200);
    }

    private static void ending() {
        WaryHouses x = new WaryHouses();
        Checks.due("end(0)", x.end(0), 0);
        Checks.due("end(1) of none", x.end(1), Checks.BAD);
        Checks.feed(x, "house;house");
        Checks.bad("end", () -> x.end(-1), () -> x.end(12), () -> x.end(Integer.MAX_VALUE),
                () -> x.end(Integer.MIN_VALUE));
        Checks.due("end(11)", x.end(11), 11);
        Checks.due("end(6)", x.end(6), 11);
        Checks.due("count(1)", x.count(1), 6);
        Checks.due("feed(' ')", x.feed(' '), 7);
        Checks.due("text()", x.text(), 1);
        Checks.due("rule(0)", x.rule(0), 1);
    }

    private static void takenTexts() {
        Checks.told(0, "");
        Checks.told(0, "   ");
        Checks.told(2, "house;house wary;");
        Checks.told(4, "  house ;  house  wary ; domain0 1 1 9;box 0 7;  ");
        Checks.told(2, "domain;box00 07;");
        Checks.told(3, "house;domain 00 09;alias 0 0 3 7;");
        Checks.told(1, "domain;");
        Checks.told(2, "box 0 0;domain;");
    }

    private static void noToken() {
        Checks.refused(".", 1, 0);
        Checks.refused("  A", 1, 2);
        Checks.refused("\t", 1, 0);
        Checks.refused("house.", 1, 5);
        Checks.refused("house wary,", 1, 10);
        Checks.refused("domain 000", 1, 7);
        Checks.refused("domain;box 0 123;", 1, 13);
        Checks.refused("domain 0 1234567890123456789012345678901234567890", 1, 9);
        Checks.refused("123", 1, 0);
        Checks.refused("house 123", 1, 6);
        Checks.refused("`", 1, 0);
        Checks.refused("{", 1, 0);
        Checks.refused("/", 1, 0);
        Checks.refused(":", 1, 0);
        Checks.refused("house;\u0000", 1, 6);
        Checks.refused("house;\u007f", 1, 6);
    }

    private static void canNotStand() {
        Checks.refused("hous;", 2, 0);
        Checks.refused("houses;", 2, 0);
        Checks.refused("mouse;", 2, 0);
        Checks.refused("horse;", 2, 0);
        Checks.refused("housf;", 2, 0);
        Checks.refused("az;", 2, 0);
        Checks.refused("housewary;", 2, 0);
        Checks.refused("wary;", 2, 0);
        Checks.refused(";", 2, 0);
        Checks.refused("1", 2, 0);
        Checks.refused("house;;", 2, 6);
        Checks.refused("house", 2, 5);
        Checks.refused("house   ", 2, 8);
        Checks.refused("house wary", 2, 10);
        Checks.refused("house wary 1;", 2, 11);
        Checks.refused("house 1;", 2, 6);
        Checks.refused("house box;", 2, 6);
        Checks.refused("house wary wary;", 2, 11);
        Checks.refused("domain 0;", 2, 8);
        Checks.refused("domain x", 2, 7);
        Checks.refused("domain 0 x", 2, 9);
        Checks.refused("domain", 2, 6);
        Checks.refused("domain 0", 2, 8);
        Checks.refused("domain 0 1 1 1 2 1 3 1;", 2, 19);
        Checks.refused("domain 0 1 1 1 2 1 9 1;", 2, 19);
        Checks.refused("domain 0 1 1 1 2 1 house", 2, 19);
        Checks.refused("domain 0 1 1 1 2 1", 2, 18);
        Checks.refused("box;", 2, 3);
        Checks.refused("box 0;", 2, 5);
        Checks.refused("box 0 0 0;", 2, 8);
        Checks.refused("box 0 0", 2, 7);
        Checks.refused("alias 0 0;", 2, 9);
        Checks.refused("alias 0 0 1;", 2, 11);
        Checks.refused("alias 0 0 1 1 1 1;", 2, 14);
        Checks.refused("list 0 0;", 2, 8);
        Checks.refused("list 0 0 1;", 2, 10);
        Checks.refused("list 0 0 0 1 0 2 0 3 0 4 0 5;", 2, 25);
        Checks.refused("list 0 0 0 1 0 2 0 3 0 4 9 9;", 2, 25);
        Checks.refused("list 0 0 0 1 0 2 0 3 0 4", 2, 24);
        Checks.refused("list 0 0 0 1 box", 2, 13);
    }

    private static void outOfBounds() {
        Checks.refused("domain 5 0;", 3, 7);
        Checks.refused("domain 4 10;", 3, 9);
        Checks.refused("domain 10 0;", 3, 7);
        Checks.refused("box 4 0;", 3, 4);
        Checks.refused("box 3 8;", 3, 6);
        Checks.refused("box 99 0;", 3, 4);
        Checks.refused("alias 4 0 0 0;", 3, 6);
        Checks.refused("alias 0 8 0 0;", 3, 8);
        Checks.refused("alias 0 0 4 0;", 3, 10);
        Checks.refused("alias 0 0 3 8;", 3, 12);
        Checks.refused("list 4 0 0 0;", 3, 5);
        Checks.refused("list 0 8 0 0;", 3, 7);
        Checks.refused("list 0 0 4 0;", 3, 9);
        Checks.refused("list 0 0 3 7 3 8;", 3, 15);
    }

    private static void twice() {
        Checks.refused("domain 0 1 0 2;", 4, 11);
        Checks.refused("domain 0 1 1 2 00 99;", 4, 15);
        Checks.refused("domain;box 0 1;box 0 1;", 4, 21);
        Checks.refused("domain;box 0 1;alias 0 01 0 2;", 4, 23);
        Checks.refused("domain;alias 0 1 0 2;list 0 1;", 4, 28);
        Checks.refused("domain;list 0 1 0 1;box 0 1;", 4, 26);
        Checks.refused("list 0 0 1 1 2 2 1 1;", 4, 19);
        Checks.refused("list 0 0 1 1 1 1", 4, 15);
        Checks.told(2, "domain;list 0 0 0 0;");
        Checks.told(2, "domain;alias 0 0 0 0;");
        Checks.told(3, "domain;domain;list 0 0 1 0 1 1 0 1 0 0;");
    }

    private static void tooMany() {
        Checks.told(5, "house;house;house;house;house;");
        Checks.refused("house;house;house;house;house; house", 5, 31);
        Checks.refused("house;house;house;house;house;house.", 5, 30);
        Checks.told(4, "domain;domain;domain;domain;");
        Checks.refused("domain;domain;domain;domain;domain 9", 5, 28);
        Checks.told(9, "house;house;house;house;house;domain;domain;domain;domain 4 0;");
    }

    private static void notThere() {
        Checks.refused("domain 0 0;", 6, 11);
        Checks.refused("house;domain 1 0; ", 6, 18);
        Checks.refused("house;house;domain 0 0;domain 1 0 2 0;", 6, 38);
        Checks.told(2, "domain 0 0;house;");
        Checks.refused("box 0 0;", 7, 8);
        Checks.refused("domain;box 1 0;", 7, 15);
        Checks.refused("domain;alias 1 0 0 0;", 7, 21);
        Checks.refused("domain;list 3 7 0 0;", 7, 20);
        Checks.told(3, "domain;alias 0 0 3 0;list 0 1 3 7 2 0 1 1;");
        Checks.refused("domain 0 0;box 3 0;", 6, 19);
    }

    private static void firstOfSeveral() {
        Checks.refused("domain 9 9 .", 3, 7);
        Checks.refused("domain 0 1 0 .", 4, 11);
        Checks.refused("box 0 9 .", 3, 6);
        Checks.refused("domain 0 0;box 9 0;", 3, 15);
        Checks.refused("box 3 0;box 3 0;", 4, 14);
    }

    private static void refusedTextChangesNothing() {
        WaryHouses x = Checks.told(3, "house wary;domain 0 0;box 0 1;");
        x.send(0, 1, 1);
        x.tick(1);
        x.send(0, 1, 2);
        x.set(0, 0);
        x.keep(1);
        Checks.due("text() of a fault", Checks.tell(x, "house;house;domain 3 3;"), -33);
        Checks.due("fault()", x.fault(), 6);
        Checks.due("rule(0)", x.rule(0), 1);
        Checks.due("rule(5)", x.rule(5), 1);
        Checks.due("rule(6)", x.rule(6), 2);
        Checks.due("rule(7)", x.rule(7), 1);
        Checks.due("rule(10)", x.rule(10), 1);
        Checks.due("house(0, 1)", x.house(0, 1), 0);
        Checks.due("house(0, 0)", x.house(0, 0), 1);
        Checks.due("address(1, 1)", x.address(1, 1), 1);
        Checks.due("log(0, 0)", x.log(0, 0), 0);
        Checks.due("count(0)", x.count(0), 1);
        Checks.due("back(1)", x.back(1), 1);
        Checks.due("fault() behind other calls", x.fault(), 6);
        Checks.due("text() of a fault", Checks.tell(x, "house.;"), -15);
        Checks.due("fault()", x.fault(), 1);
        Checks.due("text() of none", x.text(), 0);
        Checks.due("fault()", x.fault(), 0);
    }

    private static void takenTextBeginsAnew() {
        WaryHouses x = Checks.told(5, "house wary;house;domain 0 0;box 0 1;list 0 2 0 1;");
        x.send(1, 1, 1);
        x.send(0, 1, 1);
        x.send(0, 1, 9);
        x.send(0, 1, 2);
        x.tick(3);
        x.set(1, 0);
        x.keep(0);
        x.sheet(0, 0, 7);
        x.send(0, 1, 1);
        Checks.due("house(0, 2)", x.house(0, 2), 1);
        Checks.due("house(0, 3)", x.house(0, 3), 1);
        Checks.due("address(1, 1)", x.address(1, 1), 3);
        Checks.due("text()", Checks.tell(x, "house;house wary;domain 0 0;box 0 1;"), 4);
        for (int what = 5; what <= 17; what++) {
            Checks.due("rule(" + what + ") anew", x.rule(what), 0);
        }
        Checks.due("rule(4)", x.rule(4), 0);
        Checks.due("house(0, 0)", x.house(0, 0), 0);
        Checks.due("house(1, 0)", x.house(1, 0), 1);
        Checks.due("house(1, 1)", x.house(1, 1), 1);
        Checks.due("house(0, 2)", x.house(0, 2), 0);
        Checks.due("house(0, 3)", x.house(0, 3), 0);
        Checks.due("address(1, 1)", x.address(1, 1), 0);
        Checks.due("address(1, 2)", x.address(1, 2), Checks.NONE);
        Checks.due("address(1, 3)", x.address(1, 3), Checks.NONE);
        Checks.due("address(2, 0)", x.address(2, 0), 0);
        Checks.due("leads(2, 0)", x.leads(2, 0), Checks.NONE);
        Checks.due("log(0, 0)", x.log(0, 0), Checks.NONE);
        Checks.due("count(0)", x.count(0), 0);
        Checks.due("count(2)", x.count(2), 7);
        Checks.due("back(0)", x.back(0), Checks.STATE);
        Checks.due("keep(0)", x.keep(0), 0);
        Checks.due("send(0, 1, 1)", x.send(0, 1, 1), 0);
        Checks.due("tick(1)", x.tick(1), 1);
    }
}
