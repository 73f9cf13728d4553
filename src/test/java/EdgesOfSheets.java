/** Promises 23 to 26: sheets, letters from them, counts. */
final class EdgesOfSheets {
    private static final String HOUSES = "house;house;house;house;house;";
    private static final int LEAST = Integer.MIN_VALUE, GREATEST = Integer.MAX_VALUE;

    private EdgesOfSheets() {
    }

    static void check() {
        sizes();
        cellsAreZero();
        sheetBeside();
        sizeBelowZero();
        lowestBits();
        cells();
        layBeside();
        layOfNothing();
        layBesideTheCells();
        postLeastAndMost();
        postOfNone();
        postBeside();
        postOfNothing();
        postOfAnotherLane();
        postBesideTheCells();
        faultsInOrder();
        postRefused();
        postWhenFull();
        postSendsNoneOrAll();
        copiedFirst();
        counts();
        countOfNothing();
        countBeside();
    }

    private static void lay(WaryHouses x, int k, int first, int... cells) {
        for (int i = 0; i < cells.length; i++) {
            Checks.due("lay(" + k + ", " + (first + i) + ", " + cells[i] + ")", x.lay(k, first + i, cells[i]), 1);
        }
    }

    private static void sizes() {
        Checks.of(0, "SHEETS 0 to 3 are rows of BYTES (lane 0), INTS (1), both with a sign, with 0 to 40 CELLS, or nothing (at first).");
        Checks.of(23, "A SHEET is a new row of CELLS 0: 1.");
        WaryHouses x = new WaryHouses();
        for (int lane = 0; lane <= 1; lane++) {
            for (int n : new int[] {0, 1, 39, 40}) {
                for (int k = 0; k <= 3; k++) {
                    Checks.due("sheet(" + k + ", " + lane + ", " + n + ")", x.sheet(k, lane, n), 1);
                    Checks.due("lay of the last cell", x.lay(k, n - 1, 1), n == 0 ? -13 : 1);
                    Checks.due("lay behind the last cell", x.lay(k, n, 1), -13);
                }
                Checks.due("count(2)", x.count(2), n);
            }
        }
    }

    private static void cellsAreZero() {
        Checks.of(23, "A SHEET is a new row of CELLS 0: 1.");
        WaryHouses x = Checks.told(5, HOUSES);
        for (int lane = 0; lane <= 1; lane++) {
            x.sheet(2, lane, 18);
            Checks.due("post(2, " + lane + ", 0, 6)", x.post(2, lane, 0, 6), 6);
            lay(x, 2, 0, 4, 31, 31);
            x.sheet(2, lane, 18);
            Checks.due("post(2, " + lane + ", 0, 6), new again", x.post(2, lane, 0, 6), 6);
        }
        Checks.due("house(0, 2)", x.house(0, 2), 24);
        for (int i = 0; i < 24; i++) {
            Checks.item(x, 0, i, i, 0, 0);
        }
    }

    private static void sheetBeside() {
        Checks.of(23, "BAD: also n above 40;");
        WaryHouses x = new WaryHouses();
        x.sheet(0, 0, 7);
        for (int n : new int[] {0, 40, -1, LEAST, 41}) {
            int size = n;
            Checks.badBeside("sheet(k, 0, " + n + ")", 0, 3, k -> x.sheet(k, 0, size));
            Checks.badBeside("sheet(0, lane, " + n + ")", 0, 1, lane -> x.sheet(0, lane, size));
        }
        Checks.bad("sheet, n above 40", () -> x.sheet(0, 0, 41), () -> x.sheet(3, 1, 41), () -> x.sheet(0, 1, 42),
                () -> x.sheet(0, 0, GREATEST), () -> x.sheet(3, 0, 1 << 20));
        Checks.due("count(2)", x.count(2), 7);
        Checks.due("lay(3, 0, 0), none was made", x.lay(3, 0, 0), -11);
    }

    private static void sizeBelowZero() {
        Checks.of(23, "-14 (SIZE): n below 0.");
        WaryHouses x = new WaryHouses();
        for (int k = 0; k <= 3; k++) {
            Checks.due("sheet(" + k + ", 0, -1)", x.sheet(k, 0, -1), -14);
            Checks.due("sheet(" + k + ", 1, -41)", x.sheet(k, 1, -41), -14);
            Checks.due("sheet(" + k + ", 1, least)", x.sheet(k, 1, LEAST), -14);
            Checks.due("lay(" + k + ", 0, 0), nothing still", x.lay(k, 0, 0), -11);
        }
        x.sheet(0, 1, 3);
        Checks.due("sheet(0, 0, -1)", x.sheet(0, 0, -1), -14);
        Checks.due("count(2), the one that was there stays", x.count(2), 3);
        Checks.due("post(0, 0, 0, 0), of its lane", x.post(0, 0, 0, 0), -12);
    }

    /** A byte keeps 8 bits and has a sign; an int keeps all. */
    private static void lowestBits() {
        Checks.of(24, "CELL i of a SHEET becomes v (its lowest bits): 1.");
        int[] values = {0, 31, 32, 127, 128, 255, 256, 256 + 31, 256 + 32, -1, -128, -225, -256, -256 + 31, 1 << 16, 1 << 31,
            GREATEST, LEAST, LEAST + 31, 0x7fffff00, 0xffffff1f};
        for (int v : values) {
            WaryHouses x = Checks.told(1, "house;");
            x.sheet(0, 0, 3);
            x.sheet(1, 1, 3);
            lay(x, 0, 2, v);
            lay(x, 1, 2, v);
            byte low = (byte) v;
            Checks.due("post of a byte " + v, x.post(0, 0, 0, 1), low >= 0 && low < 32 ? 1 : -20);
            Checks.due("post of an int " + v, x.post(1, 1, 0, 1), v >= 0 && v < 32 ? 1 : -20);
            if (low >= 0 && low < 32) {
                Checks.due("item(0, 0, 2)", x.item(0, 0, 2), low);
            }
        }
    }

    private static void cells() {
        Checks.of(24, "CELL i of a SHEET becomes v (its lowest bits): 1.");
        for (int lane = 0; lane <= 1; lane++) {
            WaryHouses x = Checks.told(5, HOUSES);
            x.sheet(3, lane, 40);
            lay(x, 3, 0, 4, 30, 31);
            lay(x, 3, 37, 3, 28, 29);
            Checks.due("post of the first cells", x.post(3, lane, 0, 1), 1);
            Checks.due("post of the last cells", x.post(3, lane, 37, 1), 1);
            Checks.item(x, 4, 0, 0, 30, 31);
            Checks.item(x, 3, 0, 1, 28, 29);
            lay(x, 3, 0, 2);
            lay(x, 3, 0, 1);
            Checks.due("post of what was laid last", x.post(3, lane, 0, 1), 1);
            Checks.item(x, 1, 0, 2, 30, 31);
        }
    }

    private static void layBeside() {
        Checks.of(24, "BAD: k;");
        WaryHouses x = new WaryHouses();
        Checks.badBeside("lay(k, 0, 0), nothing either", 0, 3, k -> x.lay(k, 0, 0));
        Checks.badBeside("lay(k, -1, 0)", 0, 3, k -> x.lay(k, -1, 0));
        for (int k = 0; k <= 3; k++) {
            x.sheet(k, 0, 1);
        }
        Checks.badBeside("lay(k, 0, 0)", 0, 3, k -> x.lay(k, 0, 0));
    }

    private static void layOfNothing() {
        Checks.of(24, "-10 less the FAULT: NULL, INDEX.");
        WaryHouses x = new WaryHouses();
        x.sheet(1, 0, 5);
        for (int i : new int[] {0, 1, 4, -1, 40, LEAST, GREATEST}) {
            Checks.due("lay(0, " + i + ", 0)", x.lay(0, i, 0), -11);
            Checks.due("lay(3, " + i + ", 0)", x.lay(3, i, 0), -11);
        }
    }

    private static void layBesideTheCells() {
        Checks.of(24, "-10 less the FAULT: NULL, INDEX.");
        WaryHouses x = Checks.told(1, "house;");
        for (int lane = 0; lane <= 1; lane++) {
            for (int n : new int[] {0, 1, 6, 40}) {
                x.sheet(0, lane, n);
                for (int i : new int[] {-1, n, n + 1, LEAST, GREATEST}) {
                    Checks.due("lay(0, " + i + ", 9) of " + n, x.lay(0, i, 9), -13);
                }
            }
            x.sheet(0, lane, 3);
            x.lay(0, 3, 9);
            x.lay(0, -1, 9);
            Checks.due("post(0, " + lane + ", 0, 1), nothing was laid", x.post(0, lane, 0, 1), 1);
        }
        Checks.item(x, 0, 0, 0, 0, 0);
        Checks.item(x, 0, 1, 1, 0, 0);
    }

    private static void postLeastAndMost() {
        Checks.of(25, "n (0 to 6) times a HOUSE, FROM, TO are sent as by send(), one behind another, of 3 n CELLS of a SHEET from CELL f on,");
        for (int lane = 0; lane <= 1; lane++) {
            for (int n = 0; n <= 6; n++) {
                WaryHouses x = Checks.told(5, HOUSES);
                x.tick(3);
                x.sheet(1, lane, 40);
                for (int i = 0; i < 6; i++) {
                    lay(x, 1, 22 + 3 * i, i % 5, 31 - i, i);
                }
                Checks.due("post(1, " + lane + ", 22, " + n + ")", x.post(1, lane, 22, n), n);
                Checks.due("rule(6)", x.rule(6), n);
                Checks.due("rule(8)", x.rule(8), n);
                for (int i = 0; i < n; i++) {
                    Checks.log(x, i, 0, 3, i, i % 5, i);
                    Checks.item(x, i % 5, i / 5, i, 31 - i, i, 0, 0, 4, 0);
                }
            }
        }
    }

    private static void postOfNone() {
        Checks.of(25, "that are copied into a row of a lane with as many by the machine first (also none): how many were.");
        WaryHouses x = new WaryHouses();
        Checks.due("post of nothing", x.post(0, 0, 0, 0), -11);
        for (int n : new int[] {0, 1, 40}) {
            x.sheet(0, 1, n);
            Checks.due("post(0, 1, 0, 0) of " + n, x.post(0, 1, 0, 0), 0);
            Checks.due("post(0, 1, all, 0) of " + n, x.post(0, 1, n, 0), 0);
            Checks.due("post(0, 1, one more, 0) of " + n, x.post(0, 1, n + 1, 0), -13);
            Checks.due("post(0, 1, -1, 0) of " + n, x.post(0, 1, -1, 0), -13);
            Checks.due("post(0, 1, least, 0) of " + n, x.post(0, 1, LEAST, 0), -13);
            Checks.due("post(0, 1, greatest, 0) of " + n, x.post(0, 1, GREATEST, 0), -13);
            Checks.due("post(0, 0, 0, 0) of another lane", x.post(0, 0, 0, 0), -12);
            Checks.due("post(0, 0, 99, 0) of another lane", x.post(0, 0, 99, 0), -12);
        }
        Checks.due("rule(6)", x.rule(6), 0);
    }

    private static void postBeside() {
        Checks.of(25, "BAD: k, lane, n;");
        WaryHouses x = Checks.told(1, "house;");
        x.sheet(0, 0, 40);
        x.sheet(3, 1, 40);
        Checks.badBeside("post(k, 0, 0, 1)", 0, 3, k -> x.post(k, 0, 0, 1));
        Checks.badBeside("post(0, lane, 0, 1)", 0, 1, lane -> x.post(0, lane, 0, 1));
        Checks.badBeside("post(0, 0, 0, n)", 0, 6, n -> x.post(0, 0, 0, n));
        Checks.badBeside("post(3, 1, 0, n)", 0, 6, n -> x.post(3, 1, 0, n));
        Checks.badBeside("post(1, 0, 0, n), nothing either", 0, 6, n -> x.post(1, 0, 0, n));
        Checks.badBeside("post(0, 1, 0, n), another lane either", 0, 6, n -> x.post(0, 1, 0, n));
        Checks.badBeside("post(0, 0, -1, n), beside the cells either", 0, 6, n -> x.post(0, 0, -1, n));
        Checks.badBeside("post(1, lane, 0, 1), nothing either", 0, 1, lane -> x.post(1, lane, 0, 1));
        Checks.due("rule(6)", x.rule(6), 0);
    }

    private static void postOfNothing() {
        Checks.of(25, "-10 less the FAULT: NULL, STORE, INDEX;");
        WaryHouses x = Checks.told(1, "house;");
        for (int k = 0; k <= 3; k++) {
            for (int lane = 0; lane <= 1; lane++) {
                Checks.due("post(" + k + ", " + lane + ", 0, 1)", x.post(k, lane, 0, 1), -11);
                Checks.due("post(" + k + ", " + lane + ", -1, 6)", x.post(k, lane, -1, 6), -11);
            }
        }
    }

    private static void postOfAnotherLane() {
        Checks.of(25, "-10 less the FAULT: NULL, STORE, INDEX;");
        WaryHouses x = Checks.told(1, "house;");
        for (int lane = 0; lane <= 1; lane++) {
            for (int n : new int[] {0, 3, 40}) {
                x.sheet(0, lane, n);
                Checks.due("post(0, " + (1 - lane) + ", 0, 1) of " + n, x.post(0, 1 - lane, 0, 1), -12);
                Checks.due("post(0, " + (1 - lane) + ", 99, 6) of " + n, x.post(0, 1 - lane, 99, 6), -12);
                Checks.due("post(0, " + (1 - lane) + ", -1, 0) of " + n, x.post(0, 1 - lane, -1, 0), -12);
            }
        }
        Checks.due("rule(6)", x.rule(6), 0);
    }

    private static void postBesideTheCells() {
        Checks.of(25, "-10 less the FAULT: NULL, STORE, INDEX;");
        for (int lane = 0; lane <= 1; lane++) {
            WaryHouses x = Checks.told(1, "house;");
            for (int n = 1; n <= 6; n++) {
                x.sheet(0, lane, 3 * n);
                Checks.due("post(0, lane, 0, " + n + ") of all cells", x.post(0, lane, 0, n), n);
                for (int f : new int[] {-1, 1, 3 * n, LEAST, GREATEST, GREATEST - 3 * n, GREATEST - 3 * n + 1}) {
                    Checks.due("post(0, lane, " + f + ", " + n + ")", x.post(0, lane, f, n), -13);
                }
                x.sheet(0, lane, 3 * n - 1);
                Checks.due("post(0, lane, 0, " + n + ") of one cell less", x.post(0, lane, 0, n), -13);
            }
            Checks.due("rule(6)", x.rule(6), 21);
        }
    }

    private static void faultsInOrder() {
        Checks.of(0, "A FAULT is what the machine finds, the first of these: 1 NULL (nothing), 2 STORE (another lane), 3 INDEX, 4 SIZE (below"
                + " 0).");
        WaryHouses x = new WaryHouses();
        Checks.due("lay: NULL, INDEX", x.lay(0, -1, 0), -11);
        Checks.due("post: NULL, INDEX", x.post(0, 0, -1, 1), -11);
        Checks.due("sheet: SIZE", x.sheet(0, 0, -1), -14);
        x.sheet(0, 0, 3);
        Checks.due("post: STORE, INDEX", x.post(0, 1, -1, 1), -12);
        Checks.due("post: INDEX", x.post(0, 0, -1, 1), -13);
        Checks.due("lay: INDEX", x.lay(0, 3, 1000), -13);
        Checks.due("post: INDEX, and no such house", x.post(0, 0, 1, 1), -13);
        Checks.due("post: no such house", x.post(0, 0, 0, 1), -20);
    }

    private static void postRefused() {
        Checks.of(25, "-20 less i (from 0 on): the i-th is refused by send() (BAD, FULL): then none is sent.");
        int[][] wrong = {{0, 2}, {0, -1}, {1, 32}, {1, -1}, {2, 32}, {2, -1}, {0, 127}, {1, 127}, {2, -128}};
        for (int lane = 0; lane <= 1; lane++) {
            for (int i = 0; i < 6; i++) {
                WaryHouses x = Checks.told(2, "house;house;");
                x.sheet(0, lane, 18);
                for (int[] one : wrong) {
                    x.lay(0, 3 * i + one[0], one[1]);
                    Checks.due("post(0, lane, 0, 6), cell " + one[0] + " is " + one[1], x.post(0, lane, 0, 6), -20 - i);
                    Checks.due("post(0, lane, 3 i, 1)", x.post(0, lane, 3 * i, 1), -20);
                    x.lay(0, 3 * i + one[0], 0);
                }
                x.lay(0, 3 * i, 2);
                x.lay(0, 17, 32);
                Checks.due("post, the first that is refused", x.post(0, lane, 0, 6), -20 - i);
                Checks.due("rule(6)", x.rule(6), 0);
                Checks.due("post of those ahead", x.post(0, lane, 0, i), i);
            }
        }
        WaryHouses none = new WaryHouses();
        none.sheet(0, 0, 3);
        Checks.due("post, no houses", none.post(0, 0, 0, 1), -20);
        Checks.due("post, none of no houses", none.post(0, 0, 0, 0), 0);
    }

    private static void postWhenFull() {
        Checks.of(25, "-20 less i (from 0 on): the i-th is refused by send() (BAD, FULL): then none is sent.");
        for (int room = 0; room <= 6; room++) {
            WaryHouses x = Checks.told(1, "house;");
            x.sheet(0, 1, 18);
            for (int i = room; i < 60; i++) {
                x.send(0, 0, 0);
            }
            for (int n = 6; n > room; n--) {
                Checks.due("post of " + n + ", room for " + room, x.post(0, 1, 0, n), -20 - room);
            }
            Checks.due("rule(7)", x.rule(7), 60 - room);
            x.lay(0, 0, 1);
            Checks.due("post, BAD ahead of FULL", x.post(0, 1, 0, 6), -20);
            x.lay(0, 0, 0);
            Checks.due("post of " + room, x.post(0, 1, 0, room), room);
            Checks.due("rule(7)", x.rule(7), 60);
        }
    }

    private static void postSendsNoneOrAll() {
        Checks.of(25, "then none is sent.");
        int[] want = Snapshot.of(EdgesOfSheets::ofTwoRows);
        Snapshot.same("behind a post that is refused", want, Snapshot.of(() -> {
            WaryHouses x = ofTwoRows();
            x.post(0, 0, 0, 3);
            return x;
        }));
        WaryHouses x = ofTwoRows();
        Checks.due("post(0, 0, 0, 3)", x.post(0, 0, 0, 3), -22);
        Checks.due("post(0, 0, 0, 2)", x.post(0, 0, 0, 2), 2);
    }

    private static WaryHouses ofTwoRows() {
        WaryHouses x = Scenes.busy();
        x.sheet(0, 0, 9);
        x.lay(0, 6, 2);
        return x;
    }

    private static void copiedFirst() {
        Checks.of(25, "that are copied into a row of a lane with as many by the machine first (also none): how many were.");
        WaryHouses x = Checks.told(5, HOUSES);
        x.sheet(0, 0, 3);
        x.sheet(1, 0, 3);
        lay(x, 0, 0, 4, 31, 30);
        Checks.due("post(0, 0, 0, 1)", x.post(0, 0, 0, 1), 1);
        Checks.due("post(0, 0, 0, 1), the cells stay", x.post(0, 0, 0, 1), 1);
        Checks.due("post(1, 0, 0, 1), so do those of others", x.post(1, 0, 0, 1), 1);
        Checks.item(x, 4, 1, 1, 31, 30, 0, 0, 1, 0);
        Checks.item(x, 0, 0, 2, 0, 0, 0, 0, 1, 0);
        lay(x, 0, 0, 3, 1, 1);
        Checks.item(x, 4, 0, 0, 31, 30, 0, 0, 1, 0);
    }

    private static void counts() {
        Checks.of(26, "How many: 0 IMAGES, 1 bytes on THE TAPE, 2 CELLS of SHEET 0 (NONE: nothing).");
        WaryHouses x = new WaryHouses();
        Checks.answers("count(what) of a new object", x::count, 0, 0, Checks.NONE);
        x.keep(1);
        Checks.due("count(0)", x.count(0), 1);
        x.keep(0);
        Checks.due("count(0)", x.count(0), 2);
        x.keep(0);
        Checks.due("count(0), the most", x.count(0), 2);
        for (int i = 1; i <= 200; i++) {
            x.feed(' ');
        }
        Checks.due("count(1), full", x.count(1), 200);
        x.end(1);
        Checks.due("count(1)", x.count(1), 1);
        x.text();
        Checks.answers("count(what) behind a text", x::count, 0, 0, Checks.NONE);
    }

    private static void countOfNothing() {
        Checks.of(26, "2 CELLS of SHEET 0 (NONE: nothing).");
        WaryHouses x = new WaryHouses();
        x.sheet(1, 0, 5);
        x.sheet(3, 0, 5);
        Checks.due("count(2), of others", x.count(2), Checks.NONE);
        x.sheet(0, 0, 0);
        Checks.due("count(2), no cells", x.count(2), 0);
        x.sheet(0, 0, 40);
        Checks.due("count(2), the most", x.count(2), 40);
        x.sheet(0, 1, 1);
        Checks.due("count(2), fewer", x.count(2), 1);
    }

    private static void countBeside() {
        Checks.of(26, "BAD.");
        Checks.badBeside("count of a new object", 0, 2, new WaryHouses()::count);
        Checks.badBeside("count", 0, 2, Scenes.busy()::count);
    }
}
