/** Promises 1 to 5: a new object, the tape, how a text is answered. */
final class EdgesOfTape {
    private EdgesOfTape() {
    }

    static void check() {
        noHousesAtFirst();
        noSheetsAtFirst();
        leastAndGreatestByte();
        noByte();
        tapeIsFull();
        fullTapeStays();
        endKeepsTheFirst();
        endOfNone();
        endBeside();
        emptyText();
        mostLines();
        tapeIsEmptyBehindText();
        firstAndLastPlace();
        toldStaysByAFault();
        noFaultYet();
        faultOfTheLatest();
    }

    private static void noHousesAtFirst() {
        Checks.of(1, "No HOUSES, no DOMAINS;");
        WaryHouses x = new WaryHouses();
        for (int what = 0; what <= 17; what++) {
            Checks.due("rule(" + what + ")", x.rule(what), 0);
        }
        for (int what = 0; what <= 5; what++) {
            Checks.due("house(0, " + what + ")", x.house(0, what), Checks.BAD);
        }
        Checks.bad("no domain", () -> x.receiver(0, 0, 0), () -> x.receiver(0, 0, 1), () -> x.receiver(0, 0, 2));
        Checks.bad("no house", () -> x.send(0, 0, 0), () -> x.set(0, 1), () -> x.set(0, 0), () -> x.item(0, 0, 0),
                () -> x.stranger(0, 0, 0), () -> x.asks(0, 0, 0));
        for (int a = 0; a < 32; a++) {
            Checks.due("address(" + a + ", 0)", x.address(a, 0), 0);
        }
        Checks.due("log(0, 0)", x.log(0, 0), Checks.NONE);
        Checks.due("count(0)", x.count(0), 0);
        Checks.due("count(1)", x.count(1), 0);
    }

    private static void noSheetsAtFirst() {
        Checks.of(1, "SHEETS of nothing.");
        WaryHouses x = new WaryHouses();
        Checks.due("count(2)", x.count(2), Checks.NONE);
        for (int k = 0; k < 4; k++) {
            Checks.due("lay(" + k + ", 0, 0)", x.lay(k, 0, 0), -11);
            Checks.due("post(" + k + ", 0, 0, 0)", x.post(k, 0, 0, 0), -11);
            Checks.due("post(" + k + ", 1, 0, 0)", x.post(k, 1, 0, 0), -11);
        }
    }

    private static void leastAndGreatestByte() {
        Checks.of(2, "A byte (0 to 127) comes behind THE TAPE: how many it has.");
        WaryHouses x = new WaryHouses();
        for (int c = 0; c <= 127; c++) {
            Checks.due("feed(" + c + ")", x.feed(c), c + 1);
        }
        Checks.due("count(1)", x.count(1), 128);
        WaryHouses least = new WaryHouses();
        Checks.due("feed(0), the first", least.feed(0), 1);
        WaryHouses greatest = new WaryHouses();
        Checks.due("feed(127), the first", greatest.feed(127), 1);
    }

    private static void noByte() {
        Checks.of(2, "BAD;");
        WaryHouses x = new WaryHouses();
        Checks.badBeside("feed", 0, 127, x::feed);
        Checks.due("feed(128)", x.feed(128), Checks.BAD);
        Checks.due("feed(-128)", x.feed(-128), Checks.BAD);
        Checks.due("feed(256 + 'h')", x.feed(256 + 'h'), Checks.BAD);
        Checks.due("count(1)", x.count(1), 0);
    }

    private static void tapeIsFull() {
        Checks.of(2, "FULL: more than 200.");
        WaryHouses x = new WaryHouses();
        for (int n = 1; n <= 200; n++) {
            Checks.due("feed(32)", x.feed(32), n);
        }
        Checks.due("feed(32), the 201st", x.feed(32), Checks.FULL);
        Checks.due("feed(32), the 201st once more", x.feed(32), Checks.FULL);
        Checks.due("count(1)", x.count(1), 200);
        Checks.due("end(199)", x.end(199), 200);
        Checks.due("feed(32), room for one", x.feed(32), 200);
        Checks.due("feed(32), none again", x.feed(32), Checks.FULL);
    }

    private static void fullTapeStays() {
        Checks.of(2, "FULL: more than 200.");
        WaryHouses x = new WaryHouses();
        Checks.feed(x, " ".repeat(194) + "house;");
        Checks.due("feed('x'), full", x.feed('x'), Checks.FULL);
        Checks.due("text()", x.text(), 1);
        Checks.due("feed('x'), empty", x.feed('x'), 1);
    }

    private static void endKeepsTheFirst() {
        Checks.of(3, "THE TAPE keeps its first n bytes: how many it had.");
        WaryHouses x = new WaryHouses();
        Checks.feed(x, "house;xhouse");
        Checks.due("end of all", x.end(12), 12);
        Checks.due("end of one less", x.end(11), 12);
        Checks.due("end(6)", x.end(6), 11);
        Checks.due("count(1)", x.count(1), 6);
        Checks.due("feed(' '), behind what is kept", x.feed(' '), 7);
        Checks.due("text()", x.text(), 1);
        WaryHouses all = new WaryHouses();
        Checks.feed(all, " ".repeat(200));
        Checks.due("end(200) of a full tape", all.end(200), 200);
        Checks.due("end(0) of a full tape", all.end(0), 200);
        Checks.due("feed(32)", all.feed(32), 1);
    }

    private static void endOfNone() {
        Checks.of(3, "THE TAPE keeps its first n bytes: how many it had.");
        WaryHouses x = new WaryHouses();
        Checks.due("end(0) of none", x.end(0), 0);
        x.feed('.');
        Checks.due("end(0) of one", x.end(0), 1);
        Checks.due("text() of none", x.text(), 0);
        Checks.due("end(0) behind a text", x.end(0), 0);
    }

    private static void endBeside() {
        Checks.of(3, "BAD (n above that, too).");
        WaryHouses none = new WaryHouses();
        Checks.badBeside("end, none", 0, 0, none::end);
        WaryHouses x = new WaryHouses();
        Checks.feed(x, "house;");
        Checks.badBeside("end, six", 0, 6, x::end);
        Checks.due("count(1)", x.count(1), 6);
        x.end(3);
        Checks.bad("end, of what is gone", () -> x.end(4), () -> x.end(6));
        WaryHouses full = new WaryHouses();
        Checks.feed(full, " ".repeat(200));
        Checks.badBeside("end, full", 0, 200, full::end);
        Checks.due("count(1), full", full.count(1), 200);
    }

    private static void emptyText() {
        Checks.of(4, "THE TAPE (empty then, by a FAULT, too) tells all: how many lines;");
        WaryHouses x = new WaryHouses();
        Checks.due("text() of none", x.text(), 0);
        Checks.due("text() of none again", x.text(), 0);
        Checks.due("text() of a blank", Checks.tell(x, " "), 0);
        Checks.due("text() of 200 blanks", Checks.tell(x, " ".repeat(200)), 0);
        WaryHouses told = Checks.told(2, "house;domain 0 0;");
        Checks.due("text() of none", told.text(), 0);
        Checks.due("rule(0): the empty text tells all, too", told.rule(0), 0);
        Checks.due("rule(1)", told.rule(1), 0);
    }

    private static void mostLines() {
        Checks.of(4, "THE TAPE (empty then, by a FAULT, too) tells all: how many lines;");
        StringBuilder text = new StringBuilder("house;".repeat(5) + "domain;".repeat(4));
        for (int a = 0; a < 20; a++) {
            text.append("box").append(a / 8).append(' ').append(a % 8).append(';');
        }
        text.append("  ");
        Checks.due("bytes of the longest text", text.length(), 200);
        WaryHouses x = Checks.told(29, text.toString());
        Checks.due("rule(0)", x.rule(0), 5);
        Checks.due("rule(1)", x.rule(1), 4);
        Checks.due("rule(2)", x.rule(2), 20);
        Checks.told(1, "house;");
    }

    private static void tapeIsEmptyBehindText() {
        Checks.of(4, "THE TAPE (empty then, by a FAULT, too) tells all: how many lines;");
        WaryHouses x = Checks.told(1, "house;");
        Checks.due("count(1)", x.count(1), 0);
        Checks.due("text() of a fault in the first byte", Checks.tell(x, ".house;"), -10);
        Checks.due("count(1)", x.count(1), 0);
        Checks.due("text() of a fault behind all", Checks.tell(x, "box 0 0;"), -18);
        Checks.due("count(1)", x.count(1), 0);
        Checks.due("feed", x.feed(' '), 1);
    }

    private static void firstAndLastPlace() {
        Checks.of(4, "-10 less the place of its FAULT:");
        Checks.refused(".", 1, 0);
        Checks.refused(" .", 1, 1);
        Checks.refused(" ".repeat(199) + ".", 1, 199);
        Checks.refused(" ".repeat(195) + "house", 2, 200);
        Checks.refused("house" + " ".repeat(195), 2, 200);
    }

    private static void toldStaysByAFault() {
        Checks.of(4, "that which was told stays.");
        String[] texts = {".", "wary;", "domain 5 0;", "domain;box 0 0;box 0 0;", "house;house;house;house;house;house;",
            "domain 3 0;", "box 2 0;"};
        for (int i = 0; i < texts.length; i++) {
            String text = texts[i];
            Checks.due("fault() of " + text, faultOf(Scenes.busy(), text), i + 1);
            int[] want = Snapshot.of(() -> faulted(Scenes.busy(), "."));
            int[] got = Snapshot.of(() -> faulted(faulted(Scenes.busy(), text), "."));
            Snapshot.same("behind the text " + text, want, got);
        }
    }

    private static int faultOf(WaryHouses x, String text) {
        return faulted(x, text).fault();
    }

    private static WaryHouses faulted(WaryHouses x, String text) {
        x.end(0);
        Scenes.feedQuietly(x, text);
        x.text();
        return x;
    }

    private static void noFaultYet() {
        Checks.of(5, "The FAULT of the latest text(); 0.");
        WaryHouses x = new WaryHouses();
        Checks.due("fault() of a new object", x.fault(), 0);
        x.feed('.');
        Checks.due("fault() ahead of text()", x.fault(), 0);
    }

    private static void faultOfTheLatest() {
        Checks.of(5, "The FAULT of the latest text(); 0.");
        WaryHouses x = new WaryHouses();
        x.feed('.');
        x.text();
        Checks.due("fault()", x.fault(), 1);
        Checks.due("fault() once more", x.fault(), 1);
        Checks.feed(x, "house;");
        Checks.due("fault() behind feed()", x.fault(), 1);
        x.sheet(0, 0, -1);
        x.end(-1);
        Checks.due("fault() behind refused calls", x.fault(), 1);
        x.text();
        Checks.due("fault() behind a text that is taken", x.fault(), 0);
        Checks.tell(x, "house");
        Checks.due("fault() of the latest", x.fault(), 2);
        Checks.tell(x, "domain 5 5;");
        Checks.due("fault() of the latest", x.fault(), 3);
        x.text();
        Checks.due("fault() of an empty text", x.fault(), 0);
    }
}
