import java.util.function.Supplier;
import java.util.function.ToIntFunction;

/** Of the terms: the answers, the first that fits; what is refused changes nothing. */
final class EdgesOfRefusal {
    private static final int BAD = Checks.BAD, STATE = Checks.STATE, FULL = Checks.FULL, NONE = Checks.NONE;

    /** A call that is refused, and the answer that is due. */
    private record Refused(String name, int due, ToIntFunction<WaryHouses> call) {
    }

    /** On Scenes.busy(): two houses, two domains, 13 bytes on the tape, image 1, sheet 0 of 6 bytes, sheet 3 of 40 ints. */
    private static final Refused[] BUSY = {
        new Refused("feed(-1)", BAD, x -> x.feed(-1)),
        new Refused("feed(128)", BAD, x -> x.feed(128)),
        new Refused("end(-1)", BAD, x -> x.end(-1)),
        new Refused("end(14)", BAD, x -> x.end(14)),
        new Refused("rule(18)", BAD, x -> x.rule(18)),
        new Refused("house(2, 0)", BAD, x -> x.house(2, 0)),
        new Refused("receiver(2, 0, 0)", BAD, x -> x.receiver(2, 0, 0)),
        new Refused("receiver(0, 1, 0)", NONE, x -> x.receiver(0, 1, 0)),
        new Refused("address(32, 0)", BAD, x -> x.address(32, 0)),
        new Refused("address(3, 1)", NONE, x -> x.address(3, 1)),
        new Refused("leads(32, 0)", BAD, x -> x.leads(32, 0)),
        new Refused("leads(2, 3)", NONE, x -> x.leads(2, 3)),
        new Refused("reaches(2, -1)", BAD, x -> x.reaches(2, -1)),
        new Refused("reaches(2, 2)", NONE, x -> x.reaches(2, 2)),
        new Refused("send(2, 0, 0)", BAD, x -> x.send(2, 0, 0)),
        new Refused("send(-1, 0, 0)", BAD, x -> x.send(-1, 0, 0)),
        new Refused("send(0, -4, 0)", BAD, x -> x.send(0, -4, 0)),
        new Refused("send(0, 0, 32)", BAD, x -> x.send(0, 0, 32)),
        new Refused("tick(0)", BAD, x -> x.tick(0)),
        new Refused("tick(21)", BAD, x -> x.tick(21)),
        new Refused("run(0)", BAD, x -> x.run(0)),
        new Refused("run(61)", BAD, x -> x.run(61)),
        new Refused("set(2, 0)", BAD, x -> x.set(2, 0)),
        new Refused("set(0, 2)", BAD, x -> x.set(0, 2)),
        new Refused("set(1, -1)", BAD, x -> x.set(1, -1)),
        new Refused("item(0, 0, 7)", BAD, x -> x.item(0, 0, 7)),
        new Refused("item(0, 5, 0)", NONE, x -> x.item(0, 5, 0)),
        new Refused("asks(0, 2, 0)", BAD, x -> x.asks(0, 2, 0)),
        new Refused("asks(0, 1, 1)", NONE, x -> x.asks(0, 1, 1)),
        new Refused("stranger(1, 0, 5)", BAD, x -> x.stranger(1, 0, 5)),
        new Refused("stranger(1, 2, 0)", NONE, x -> x.stranger(1, 2, 0)),
        new Refused("log(0, 5)", BAD, x -> x.log(0, 5)),
        new Refused("log(59, 0)", NONE, x -> x.log(59, 0)),
        new Refused("draw(1, 0)", BAD, x -> x.draw(1, 0)),
        new Refused("draw(1, 11)", BAD, x -> x.draw(1, 11)),
        new Refused("keep(-1)", BAD, x -> x.keep(-1)),
        new Refused("keep(2)", BAD, x -> x.keep(2)),
        new Refused("back(2)", BAD, x -> x.back(2)),
        new Refused("back(0)", STATE, x -> x.back(0)),
        new Refused("sheet(4, 0, 1)", BAD, x -> x.sheet(4, 0, 1)),
        new Refused("sheet(0, 2, 1)", BAD, x -> x.sheet(0, 2, 1)),
        new Refused("sheet(0, 1, 41)", BAD, x -> x.sheet(0, 1, 41)),
        new Refused("sheet(0, 1, -1)", -14, x -> x.sheet(0, 1, -1)),
        new Refused("lay(4, 0, 1)", BAD, x -> x.lay(4, 0, 1)),
        new Refused("lay(1, 0, 1)", -11, x -> x.lay(1, 0, 1)),
        new Refused("lay(0, 6, 1)", -13, x -> x.lay(0, 6, 1)),
        new Refused("lay(0, -1, 1)", -13, x -> x.lay(0, -1, 1)),
        new Refused("post(4, 0, 0, 1)", BAD, x -> x.post(4, 0, 0, 1)),
        new Refused("post(0, 0, 0, 7)", BAD, x -> x.post(0, 0, 0, 7)),
        new Refused("post(1, 0, 0, 1)", -11, x -> x.post(1, 0, 0, 1)),
        new Refused("post(0, 1, 0, 1)", -12, x -> x.post(0, 1, 0, 1)),
        new Refused("post(0, 0, 4, 1)", -13, x -> x.post(0, 0, 4, 1)),
        new Refused("post(0, 0, 1, 1)", -20, x -> x.post(0, 0, 1, 1)),
        new Refused("count(3)", BAD, x -> x.count(3)),
    };

    /** On Scenes.full(): 60 items, sheet 1 of 9 ints. */
    private static final Refused[] FULL_HOUSES = {
        new Refused("send(0, 0, 0)", FULL, x -> x.send(0, 0, 0)),
        new Refused("send(1, 31, 31)", FULL, x -> x.send(1, 31, 31)),
        new Refused("post(1, 1, 0, 1)", -20, x -> x.post(1, 1, 0, 1)),
        new Refused("post(1, 1, 0, 3)", -20, x -> x.post(1, 1, 0, 3)),
        new Refused("draw(5, 10)", 0, x -> x.draw(5, 10)),
    };

    /** On a new object. */
    private static final Refused[] NEW = {
        new Refused("draw(1, 1)", STATE, x -> x.draw(1, 1)),
        new Refused("back(0)", STATE, x -> x.back(0)),
        new Refused("back(1)", STATE, x -> x.back(1)),
        new Refused("send(0, 0, 0)", BAD, x -> x.send(0, 0, 0)),
        new Refused("set(0, 1)", BAD, x -> x.set(0, 1)),
        new Refused("run(60)", 0, x -> x.run(60)),
        new Refused("post(0, 0, 0, 0)", -11, x -> x.post(0, 0, 0, 0)),
        new Refused("lay(0, 0, 1)", -11, x -> x.lay(0, 0, 1)),
        new Refused("count(2)", NONE, x -> x.count(2)),
    };

    private EdgesOfRefusal() {
    }

    static void check() {
        constants();
        firstOfBadAndFull();
        firstOfBadAndState();
        firstOfBadAndNone();
        firstOfBadAndFault();
        nothingChanges("busy", Scenes::busy, BUSY);
        nothingChanges("full", Scenes::full, FULL_HOUSES);
        nothingChanges("new", WaryHouses::new, NEW);
        sheetsAndImagesStay();
        fullTapeStays();
        refusedTextEmptiesTheTape();
    }

    private static void constants() {
        Checks.of(0, "Answers: BAD -1 (a number is not as told, there is no such HOUSE, DOMAIN, ADDRESS, IMAGE, SHEET), STATE -2 (as told),"
                + " FULL -3, NONE -4 (there is none),");
        Checks.due("BAD", WaryHouses.BAD, -1);
        Checks.due("STATE", WaryHouses.STATE, -2);
        Checks.due("FULL", WaryHouses.FULL, -3);
        Checks.due("NONE", WaryHouses.NONE, -4);
        WaryHouses x = Checks.told(1, "house;");
        Checks.bad("no such house, domain, address, image, sheet", () -> x.house(1, 0), () -> x.receiver(0, 0, 0),
                () -> x.address(32, 0), () -> x.keep(2), () -> x.lay(4, 0, 0));
    }

    private static void firstOfBadAndFull() {
        Checks.of(0, "the first that fits;");
        WaryHouses tape = new WaryHouses();
        Checks.feed(tape, " ".repeat(200));
        Checks.due("feed(128), full", tape.feed(128), BAD);
        Checks.due("feed(-1), full", tape.feed(-1), BAD);
        Checks.due("feed(127), full", tape.feed(127), FULL);
        WaryHouses x = Scenes.full();
        Checks.due("send(2, 0, 0), full", x.send(2, 0, 0), BAD);
        Checks.due("send(0, 32, 0), full", x.send(0, 32, 0), BAD);
        Checks.due("send(0, 0, 32), full", x.send(0, 0, 32), BAD);
        Checks.due("send(0, 0, 31), full", x.send(0, 0, 31), FULL);
    }

    private static void firstOfBadAndState() {
        Checks.of(0, "the first that fits;");
        WaryHouses x = new WaryHouses();
        Checks.due("draw(1, 0), no houses", x.draw(1, 0), BAD);
        Checks.due("draw(1, 11), no houses", x.draw(1, 11), BAD);
        Checks.due("draw(1, 10), no houses", x.draw(1, 10), STATE);
        Checks.due("back(2), no image", x.back(2), BAD);
        Checks.due("back(-1), no image", x.back(-1), BAD);
        Checks.due("back(1), no image", x.back(1), STATE);
    }

    private static void firstOfBadAndNone() {
        Checks.of(0, "the first that fits;");
        WaryHouses x = Checks.told(2, "house;domain;");
        Checks.due("receiver(0, 0, 3)", x.receiver(0, 0, 3), BAD);
        Checks.due("receiver(0, 0, 2)", x.receiver(0, 0, 2), NONE);
        Checks.due("receiver(1, 0, 2)", x.receiver(1, 0, 2), BAD);
        Checks.due("address(0, 4)", x.address(0, 4), BAD);
        Checks.due("address(0, 3)", x.address(0, 3), NONE);
        Checks.due("leads(32, 0)", x.leads(32, 0), BAD);
        Checks.due("leads(31, 0)", x.leads(31, 0), NONE);
        Checks.due("leads(31, -1)", x.leads(31, -1), BAD);
        Checks.due("reaches(32, 0)", x.reaches(32, 0), BAD);
        Checks.due("reaches(31, 0)", x.reaches(31, 0), NONE);
        Checks.due("reaches(31, -1)", x.reaches(31, -1), BAD);
        Checks.due("item(0, 0, 7)", x.item(0, 0, 7), BAD);
        Checks.due("item(0, 0, 6)", x.item(0, 0, 6), NONE);
        Checks.due("item(1, 0, 6)", x.item(1, 0, 6), BAD);
        Checks.due("asks(0, 1, 0)", x.asks(0, 1, 0), BAD);
        Checks.due("asks(0, 0, 0)", x.asks(0, 0, 0), NONE);
        Checks.due("asks(1, 0, 0)", x.asks(1, 0, 0), BAD);
        Checks.due("asks(0, 0, -1)", x.asks(0, 0, -1), BAD);
        Checks.due("stranger(0, 0, 5)", x.stranger(0, 0, 5), BAD);
        Checks.due("stranger(0, 0, 4)", x.stranger(0, 0, 4), NONE);
        Checks.due("stranger(1, 0, 4)", x.stranger(1, 0, 4), BAD);
        Checks.due("log(0, 5)", x.log(0, 5), BAD);
        Checks.due("log(0, 4)", x.log(0, 4), NONE);
        Checks.due("count(3)", x.count(3), BAD);
        Checks.due("count(2)", x.count(2), NONE);
    }

    private static void firstOfBadAndFault() {
        Checks.of(0, "the first that fits;");
        WaryHouses x = new WaryHouses();
        Checks.due("sheet(4, 0, -1)", x.sheet(4, 0, -1), BAD);
        Checks.due("sheet(3, 2, -1)", x.sheet(3, 2, -1), BAD);
        Checks.due("sheet(3, 1, -1)", x.sheet(3, 1, -1), -14);
        Checks.due("lay(4, -1, 0)", x.lay(4, -1, 0), BAD);
        Checks.due("lay(3, -1, 0)", x.lay(3, -1, 0), -11);
        Checks.due("post(4, 0, -1, 0)", x.post(4, 0, -1, 0), BAD);
        Checks.due("post(3, 2, -1, 0)", x.post(3, 2, -1, 0), BAD);
        Checks.due("post(3, 0, -1, 7)", x.post(3, 0, -1, 7), BAD);
        Checks.due("post(3, 0, -1, 6)", x.post(3, 0, -1, 6), -11);
    }

    private static void nothingChanges(String scene, Supplier<WaryHouses> maker, Refused[] calls) {
        Checks.of(0, "what is refused changes nothing");
        int[] want = Snapshot.of(maker);
        for (Refused refused : calls) {
            Checks.due(refused.name + ", " + scene, refused.call.applyAsInt(maker.get()), refused.due);
            Snapshot.same("behind " + refused.name + ", " + scene, want, Snapshot.of(() -> {
                WaryHouses x = maker.get();
                refused.call.applyAsInt(x);
                return x;
            }));
        }
    }

    /** What no call asks for: the cells of sheets, the bytes of the tape. */
    private static void sheetsAndImagesStay() {
        Checks.of(0, "what is refused changes nothing");
        for (Refused refused : BUSY) {
            WaryHouses x = Scenes.busy();
            refused.call.applyAsInt(x);
            Checks.due("post(0, 0, 0, 2) behind " + refused.name, x.post(0, 0, 0, 2), 2);
            Checks.item(x, 0, 1, 6, 3, 0, 0, 0, 9, 0);
            Checks.item(x, 0, 2, 7, 0, 9, 0, 0, 9, 0);
            Checks.due("lay(3, 39, 0) behind " + refused.name, x.lay(3, 39, 0), 1);
            Checks.due("post(3, 1, 37, 1) behind " + refused.name, x.post(3, 1, 37, 1), 1);
            Checks.due("back(1) behind " + refused.name, x.back(1), 0);
            Checks.due("rule(5), of the image", x.rule(5), 7);
            Checks.due("address(8, 2), of the image", x.address(8, 2), 0);
            Checks.due("text() behind " + refused.name, x.text(), 2);
        }
    }

    private static void fullTapeStays() {
        Checks.of(0, "what is refused changes nothing");
        WaryHouses x = new WaryHouses();
        Checks.feed(x, "house;".repeat(5) + " ".repeat(165) + "domai");
        Checks.due("feed('n'), full", x.feed('n'), FULL);
        Checks.due("feed(-1), full", x.feed(-1), BAD);
        Checks.due("end(201)", x.end(201), BAD);
        Checks.due("count(1)", x.count(1), 200);
        Checks.due("text()", x.text(), -205);
    }

    private static void refusedTextEmptiesTheTape() {
        Checks.of(0, "(but THE TAPE, as told).");
        WaryHouses x = Checks.told(1, "house;");
        Checks.due("text() of a fault", Checks.tell(x, "house;house;x"), -22);
        Checks.due("count(1)", x.count(1), 0);
        Checks.due("rule(0)", x.rule(0), 1);
        Checks.due("text(), nothing is left on the tape", x.text(), 0);
        Checks.due("rule(0)", x.rule(0), 0);
    }
}
