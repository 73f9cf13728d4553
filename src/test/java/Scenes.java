/** Objects to which much has been done, made by the same calls each time. */
final class Scenes {
    static final String BUSY = "house;house wary;domain 0 0;domain 1 0;box 0 0;box 1 0;alias 0 1 0 0;"
            + "list 0 2 0 0 0 1 1 0;";

    static final String WARY = "house wary;house wary;house wary;house wary;house wary;domain 0 0 1 1;domain 2 0 3 1 4 2;";

    private Scenes() {
    }

    static void feedQuietly(WaryHouses x, String text) {
        for (int i = 0; i < text.length(); i++) {
            x.feed(text.charAt(i));
        }
    }

    static WaryHouses of(String text) {
        WaryHouses x = new WaryHouses();
        feedQuietly(x, text);
        x.text();
        return x;
    }

    /**
     * All that is counted has been done; there are items, strangers (one PASSED), a house that is DOWN, an image, sheets,
     * a fault, bytes on the tape. Some 220 calls.
     */
    static WaryHouses busy() {
        WaryHouses x = of(BUSY);
        x.send(0, 8, 2);
        x.send(0, 7, 5);
        x.tick(7);
        x.keep(1);
        x.send(0, 6, 8);
        x.send(0, 5, 0);
        x.tick(1);
        x.send(1, 4, 0);
        x.set(1, 0);
        x.sheet(0, 0, 6);
        x.lay(0, 1, 3);
        x.lay(0, 5, 9);
        x.sheet(3, 1, 40);
        feedQuietly(x, "house;box");
        x.text();
        feedQuietly(x, "house;domain;");
        return x;
    }

    /** Every house is wary and knows a stranger, those of houses 0 to 2 PASSED; items in houses 0 and 2. Some 130 calls. */
    static WaryHouses wary() {
        WaryHouses x = of(WARY);
        x.send(2, 5, 0);
        x.send(0, 6, 8);
        x.set(0, 0);
        x.tick(4);
        x.set(0, 1);
        x.tick(4);
        return x;
    }

    /** Items that have one, two and no MARKS, TRIES and HOPS. Some 100 calls. */
    static WaryHouses marked() {
        WaryHouses x = of("house;house;domain 0 0;domain 1 0;list 0 0 0 1 1 0;list 0 1 1 1 0 2;alias 0 2 0 3;");
        x.set(1, 0);
        x.send(0, 5, 0);
        x.tick(3);
        x.send(0, 6, 9);
        return x;
    }

    /** The most items that there may be: 55 in house 1, which is DOWN, and 5 in house 0. Some 160 calls. */
    static WaryHouses full() {
        WaryHouses x = of(BUSY);
        x.set(1, 0);
        x.tick(1);
        for (int i = 0; i < 60; i++) {
            x.send(i < 55 ? 1 : 0, 3, 0);
        }
        x.sheet(1, 1, 9);
        return x;
    }
}
