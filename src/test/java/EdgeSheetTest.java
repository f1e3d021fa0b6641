/** A test for each sentence on promises 30 to 36 (and their terms) that names a boundary. */
public final class EdgeSheetTest {
    private static final int STATE = FireLeave.STATE, NONE = FireLeave.NONE;
    private static final int LOW = Integer.MIN_VALUE, HIGH = Integer.MAX_VALUE;
    private static final String RICH = "deaf 99;rude 99;cook 99;polite 99;deaf 99;fire 0 20 0;";

    public static void main(String[] args) throws IllegalAccessException {
        Sentences.run(EdgeSheetTest.class);
    }

    private static void fill(FireLeave x, int k, int... cells) {
        for (int i = 0; i < cells.length; i++) {
            Check.due("lay(" + k + ", " + i + ", " + cells[i] + ")", x.lay(k, i, cells[i]), 1);
        }
    }

    private static void readOf(FireLeave x, int k, int lane, int f, int n, int came, int torn) {
        Check.due("read(" + k + ", " + lane + ", " + f + ", " + n + ")", x.read(k, lane, f, n), came);
        Check.due("torn() behind read(" + k + ", " + lane + ", " + f + ", " + n + ")", x.torn(), torn);
    }

    // ---- promise 30

    @Promise(number = 30, says = "IMAGE k (0, 1) is HOUSES, FIRE, RAIN, NIGHT, BURNT, GIVEN, what was SEEN: whether there was one (1, 0).")
    static void whetherThereWasAnImage() {
        FireLeave x = Check.city("deaf 9;");
        Check.due("keep(0)", x.keep(0), 0);
        Check.due("count(2)", x.count(2), 1);
        Check.due("keep(0)", x.keep(0), 1);
        Check.due("keep(1)", x.keep(1), 0);
        Check.due("count(2)", x.count(2), 2);
        Check.due("keep(1)", x.keep(1), 1);
        Check.due("count(2)", x.count(2), 2);
        FireLeave none = new FireLeave();
        Check.due("no houses: keep(1)", none.keep(1), 0);
        Check.due("no houses: back(1)", none.back(1), 0);
    }

    @Promise(number = 30, says = "whether there was one (1, 0). BAD.")
    static void noSuchImageToKeep() {
        FireLeave x = Check.city("deaf 9;");
        for (int k : new int[] {-1, 2, 3, LOW, HIGH}) {
            Check.bad("keep(" + k + ")", x.keep(k));
        }
        Check.due("count(2)", x.count(2), 0);
    }

    @Promise(number = 30, says = "IMAGE k (0, 1) is HOUSES, FIRE, RAIN, NIGHT, BURNT, GIVEN, what was SEEN")
    static void imagesAreTwo() {
        FireLeave x = Check.city("deaf 9;");
        x.keep(0);
        x.alter(0, 1, 50);
        x.keep(1);
        x.alter(0, 1, 70);
        x.back(0);
        Check.due("house(0, 1) of IMAGE 0", x.house(0, 1), 9);
        x.back(1);
        Check.due("house(0, 1) of IMAGE 1", x.house(0, 1), 50);
        x.alter(0, 1, 60);
        x.keep(0);
        x.back(1);
        Check.due("house(0, 1) of IMAGE 1 still", x.house(0, 1), 50);
        x.back(0);
        Check.due("house(0, 1) of the new IMAGE 0", x.house(0, 1), 60);
    }

    // ---- promise 31

    @Promise(number = 31, says = "All is as IMAGE k: NIGHT.")
    static void allIsAsTheImage() {
        FireLeave x = Check.city("deaf 40;rude 40;cook 40;fire 1 5 2;rain 1;offer 0 2;");
        x.go(5);
        x.see(0, 1, 4);
        x.keep(1);
        String kept = Check.picture(x);
        for (int h = 0; h < 3; h++) {
            x.alter(h, 0, 0);
            x.alter(h, 1, 99);
        }
        x.offer(1, 7);
        x.set(1, 0);
        x.set(2, 20);
        x.set(3, 9);
        x.rain(1, false);
        x.rain(6, true);
        x.alter(0, 0, 2);
        x.go(30);
        x.forget(0);
        x.see(1, 1, 99);
        x.see(1, 2, 99);
        Check.due("back(1)", x.back(1), 5);
        Check.same("all", Check.picture(x), kept);
        x.go(1);
        Check.due("back(1) again, it is there still", x.back(1), 5);
        Check.same("all, again", Check.picture(x), kept);
    }

    @Promise(number = 31, says = "All is as IMAGE k")
    static void whatWasSeenIsBack() {
        FireLeave x = Check.city("polite 9;polite 9;fire 0 3 0;");
        x.see(0, 1, 6);
        x.see(1, 2, 8);
        x.keep(0);
        Check.due("fits(1), deaf and a cook", x.fits(1), 11);
        x.forget(0);
        x.see(1, 3, 50);
        x.see(0, 5, 60);
        x.see(0, 5, 60);
        Check.due("fits(0), none", x.fits(0), 0);
        Check.due("back(0)", x.back(0), 0);
        Check.due("count(1)", x.count(1), 2);
        Check.due("fits(0)", x.fits(0), 1);
        Check.due("fits(1)", x.fits(1), 11);
        x.forget(1);
        Check.due("fits(0), by the first", x.fits(0), 4);
        Check.due("fits(1), by the first", x.fits(1), 8);
        x.back(0);
        Check.due("fits(1), the IMAGE has both still", x.fits(1), 11);
    }

    @Promise(number = 31, says = "BAD; STATE: there is none.")
    static void noSuchImage() {
        FireLeave x = Check.city("deaf 9;");
        Check.due("back(0)", x.back(0), STATE);
        Check.due("back(1)", x.back(1), STATE);
        x.keep(0);
        Check.due("back(1), IMAGE 0 alone is kept", x.back(1), STATE);
        x.go(3);
        String before = Check.picture(x);
        Check.due("back(1)", x.back(1), STATE);
        for (int k : new int[] {-1, 2, 3, LOW, HIGH}) {
            Check.bad("back(" + k + ")", x.back(k));
        }
        Check.same("nothing is changed", Check.picture(x), before);
        Check.due("back(0)", x.back(0), 0);
    }

    // ---- promise 32

    @Promise(number = 32, says = "A SHEET is a new row of CELLS 0: 1.")
    static void newRows() {
        FireLeave x = Check.city(RICH);
        for (int k = 0; k < 4; k++) {
            for (int lane = 0; lane < 3; lane++) {
                Check.due("sheet(" + k + ", " + lane + ", 40)", x.sheet(k, lane, 40), 1);
                Check.due("the last CELL", x.lay(k, 39, 7), 1);
                Check.due("behind it", x.lay(k, 40, 7), -12);
            }
        }
        fill(x, 0, 1, 5);
        Check.due("sheet(0, 2, 40), new", x.sheet(0, 2, 40), 1);
        Check.due("CELLS are 0: HOUSE 0, 0 of it", x.read(0, 2, 0, 1), -20);
        Check.due("lay(0, 1, 3)", x.lay(0, 1, 3), 1);
        readOf(x, 0, 2, 0, 1, 1, 0);
        Check.due("house(0, 2)", x.house(0, 2), 3);
        Check.due("house(1, 2)", x.house(1, 2), 0);
    }

    @Promise(number = 32, says = "with 0 to 40 CELLS, or nothing (at first).")
    static void noCellsAreNotNothing() {
        FireLeave x = Check.city(RICH);
        for (int lane = 0; lane < 3; lane++) {
            Check.due("sheet(0, " + lane + ", 0)", x.sheet(0, lane, 0), 1);
            Check.due("count(4)", x.count(4), 0);
            Check.due("lay(0, 0, 1)", x.lay(0, 0, 1), -12);
            readOf(x, 0, lane, 0, 1, 0, 2);
        }
        Check.due("sheet(0, 0, 1)", x.sheet(0, 0, 1), 1);
        Check.due("count(4)", x.count(4), 1);
        Check.due("sheet(0, 0, 40)", x.sheet(0, 0, 40), 1);
        Check.due("count(4)", x.count(4), 40);
    }

    @Promise(number = 32, says = "BAD: also n above 40; -10 - 4.")
    static void sheetRefused() {
        FireLeave x = Check.city(RICH);
        x.sheet(0, 1, 7);
        x.lay(0, 1, 3);
        for (int n : new int[] {41, 42, HIGH}) {
            Check.bad("sheet(0, 0, " + n + ")", x.sheet(0, 0, n));
        }
        for (int k : new int[] {-1, 4, LOW, HIGH}) {
            Check.bad("sheet(" + k + ", 0, 5)", x.sheet(k, 0, 5));
            Check.bad("sheet(" + k + ", 0, -1), the first that fits", x.sheet(k, 0, -1));
        }
        for (int lane : new int[] {-1, 3, LOW, HIGH}) {
            Check.bad("sheet(0, " + lane + ", 5)", x.sheet(0, lane, 5));
            Check.bad("sheet(0, " + lane + ", -1), the first that fits", x.sheet(0, lane, -1));
        }
        for (int n : new int[] {-1, -2, LOW}) {
            Check.due("sheet(0, 0, " + n + ")", x.sheet(0, 0, n), -14);
        }
        Check.due("count(4), as it was", x.count(4), 7);
        readOf(x, 0, 1, 0, 1, 1, 0);
        Check.due("house(0, 2), as it was", x.house(0, 2), 3);
    }

    // ---- promise 33

    @Promise(number = 33, says = "CELL i of a SHEET becomes v (its lowest bits): 1.")
    static void lowestBits() {
        // The row's lane, what is laid as how much, and how much comes of it (0: it is refused).
        int[][] laid = {{0, 20, 20}, {0, 127, 0}, {0, 128, 0}, {0, 255, 0}, {0, 256, 0}, {0, 257, 1}, {0, 276, 20}, {0, -236, 20},
            {0, -1, 0}, {0, LOW + 5, 5}, {0, HIGH, 0}, {1, 20, 20}, {1, 276, 0}, {1, 32768 + 20, 0}, {1, 65535, 0}, {1, 65536, 0},
            {1, 65537, 1}, {1, -65516, 20}, {1, LOW + 5, 5}, {2, 20, 20}, {2, 276, 0}, {2, 65537, 0}, {2, LOW + 5, 0}, {2, HIGH, 0},
            {2, LOW, 0}};
        for (int[] row : laid) {
            FireLeave x = Check.city(RICH);
            x.sheet(3, row[0], 2);
            Check.due("lay(3, 1, " + row[1] + ") in lane " + row[0], x.lay(3, 1, row[1]), 1);
            Check.due("read of " + row[1] + " in lane " + row[0], x.read(3, row[0], 0, 1), row[2] == 0 ? -20 : 1);
            Check.due("house(0, 2), " + row[1] + " in lane " + row[0], x.house(0, 2), row[2]);
        }
    }

    @Promise(number = 33, says = "BAD: k; -10 less the FAULT: NULL, INDEX.")
    static void layRefused() {
        FireLeave x = new FireLeave();
        x.sheet(0, 0, 3);
        Check.due("lay(0, 0, 1)", x.lay(0, 0, 1), 1);
        Check.due("lay(0, 2, 1)", x.lay(0, 2, 1), 1);
        for (int i : new int[] {-1, 3, 39, 40, LOW, HIGH}) {
            Check.due("lay(0, " + i + ", 1)", x.lay(0, i, 1), -12);
            Check.due("lay(1, " + i + ", 1), nothing, ahead of the place", x.lay(1, i, 1), -11);
            Check.bad("lay(4, " + i + ", 1)", x.lay(4, i, 1));
        }
        Check.due("lay(3, 0, 1)", x.lay(3, 0, 1), -11);
        for (int k : new int[] {-1, 4, LOW, HIGH}) {
            Check.bad("lay(" + k + ", 0, 1)", x.lay(k, 0, 1));
        }
        Check.due("torn(), nothing was read", x.torn(), 0);
    }

    // ---- promise 34

    @Promise(number = 34, says = "n (0 to 20) times a HOUSE, how much are read of a SHEET taken as of a lane, two CELLS each from CELL f on, one behind another as by offer(): how many came.")
    static void readNoneAndTwenty() {
        for (int lane = 0; lane < 3; lane++) {
            FireLeave x = Check.city(RICH);
            x.sheet(1, lane, 40);
            for (int i = 0; i < 20; i++) {
                x.lay(1, 2 * i, i % 5);
                x.lay(1, 2 * i + 1, 1 + i % 5);
            }
            String before = Check.picture(x);
            readOf(x, 1, lane, 0, 0, 0, 0);
            Check.same("none came", Check.picture(x), before);
            readOf(x, 1, lane, 0, 20, 20, 0);
            for (int h = 0; h < 5; h++) {
                Check.due("house(" + h + ", 2) of lane " + lane, x.house(h, 2), 4 * (1 + h));
            }
            Check.due("rule(7)", x.rule(7), 60);
            Check.due("rule(2)", x.rule(2), 0);
            readOf(x, 1, lane, 38, 1, 1, 0);
            Check.due("house(4, 2), the last two CELLS", x.house(4, 2), 25);
            readOf(x, 1, lane, 2, 1, 1, 0);
            Check.due("house(1, 2), from CELL 2 on", x.house(1, 2), 10);
            readOf(x, 1, lane, 1, 1, 1, 0);
            Check.due("house(1, 2), from CELL 1 on", x.house(1, 2), 11);
        }
    }

    @Promise(number = 34, says = "one behind another as by offer(): how many came.")
    static void readOneBehindAnother() {
        FireLeave x = Check.city("deaf 9;rude 9;fire 0 20 0;");
        x.sheet(0, 2, 4);
        fill(x, 0, 0, 5, 0, 4);
        readOf(x, 0, 2, 0, 2, 2, 0);
        Check.due("house(0, 1), all", x.house(0, 1), 0);
        Check.due("rule(2)", x.rule(2), 11);
        x.alter(0, 1, 8);
        Check.due("the second, for the first took of it", x.read(0, 2, 0, 2), -21);
        Check.due("house(0, 1)", x.house(0, 1), 8);
    }

    @Promise(number = 34, says = "What the machine refuses: those that were whole ahead came (its FAULT is asked by torn()).")
    static void tornReads() {
        FireLeave x = Check.city(RICH);
        x.sheet(0, 1, 5);
        fill(x, 0, 0, 1, 1, 2, 2);
        readOf(x, 1, 1, 0, 1, 0, 1);
        readOf(x, 0, 1, 0, 3, 2, 2);
        Check.due("house(2, 2), half of it is none", x.house(2, 2), 0);
        Check.due("rule(7)", x.rule(7), 3);
        readOf(x, 0, 1, 2, 20, 1, 2);
        readOf(x, 0, 1, 4, 1, 0, 2);
        readOf(x, 0, 1, 3, 1, 1, 0);
        readOf(x, 0, 0, 0, 1, 0, 3);
        readOf(x, 0, 2, 0, 1, 0, 3);
        Check.due("rule(7)", x.rule(7), 3 + 2 + 2);
    }

    @Promise(number = 34, says = "from CELL f on")
    static void readFromNoCell() {
        FireLeave x = Check.city(RICH);
        x.sheet(0, 1, 4);
        fill(x, 0, 0, 1, 0, 1);
        String before = Check.picture(x);
        for (int f : new int[] {-1, -2, -40, 3, 4, 5, LOW, LOW + 1, HIGH, HIGH - 1}) {
            readOf(x, 0, 1, f, 1, 0, 2);
            readOf(x, 0, 1, f, 20, 0, 2);
        }
        readOf(x, 1, 1, -1, 1, 0, 1);
        readOf(x, 0, 2, -1, 1, 0, 3);
        readOf(x, 0, 1, HIGH, 0, 0, 0);
        Check.same("nothing came", Check.picture(x), before);
    }

    @Promise(number = 34, says = "A FAULT is what the machine finds: 1 NULL (nothing), 2 INDEX, 3 CAST (another lane), 4 SIZE (below 0).")
    static void everyFault() {
        for (int lane = 0; lane < 3; lane++) {
            FireLeave x = Check.city(RICH);
            for (int as = 0; as < 3; as++) {
                readOf(x, 2, as, 99, 1, 0, 1);
            }
            x.sheet(2, lane, 4);
            for (int as = 0; as < 3; as++) {
                readOf(x, 2, as, 99, 1, 0, as == lane ? 2 : 3);
            }
            Check.due("sheet(2, " + lane + ", -1)", x.sheet(2, lane, -1), -14);
            Check.due("torn(), that was no read()", x.torn(), lane == 2 ? 2 : 3);
        }
    }

    @Promise(number = 34, says = "BAD: k, lane, n;")
    static void readRefused() {
        FireLeave x = Check.city(RICH);
        for (int k = 0; k < 4; k++) {
            x.sheet(k, 2, 40);
            x.lay(k, 1, 1);
        }
        String before = Check.picture(x);
        for (int wrong : new int[] {-1, LOW, HIGH}) {
            Check.bad("read(" + wrong + ", 2, 0, 1)", x.read(wrong, 2, 0, 1));
            Check.bad("read(0, " + wrong + ", 0, 1)", x.read(0, wrong, 0, 1));
            Check.bad("read(0, 2, 0, " + wrong + ")", x.read(0, 2, 0, wrong));
        }
        Check.bad("read(4, 2, 0, 1)", x.read(4, 2, 0, 1));
        Check.bad("read(0, 3, 0, 1)", x.read(0, 3, 0, 1));
        Check.bad("read(0, 2, 0, 21)", x.read(0, 2, 0, 21));
        Check.same("nothing is changed", Check.picture(x), before);
        readOf(x, 3, 2, 0, 1, 1, 0);
    }

    @Promise(number = 34, says = "-20 less i: the i-th, whole, is refused by offer() (in whichever way): then none came; the first met.")
    static void refusedByOffer() {
        int[][] pairs = {{-1, 1}, {5, 1}, {0, 0}, {0, 21}, {0, -1}, {1, 4}, {LOW, HIGH}};
        for (int[] pair : pairs) {
            FireLeave x = Check.city("deaf 99;rude 3;cook 99;polite 99;deaf 99;fire 0 20 0;");
            x.sheet(0, 2, 40);
            for (int i = 0; i < 20; i++) {
                x.lay(0, 2 * i + 1, 1);
            }
            for (int i : new int[] {19, 1, 0}) {
                x.lay(0, 2 * i, pair[0]);
                x.lay(0, 2 * i + 1, pair[1]);
                String before = Check.picture(x);
                Check.due("read, (" + pair[0] + ", " + pair[1] + ") at " + i, x.read(0, 2, 0, 20), -20 - i);
                Check.same("none came", Check.picture(x), before);
            }
        }
    }

    @Promise(number = 34, says = "then none came; the first met.")
    static void refusedOrTorn() {
        FireLeave x = Check.city(RICH);
        x.sheet(0, 2, 5);
        fill(x, 0, 0, 1, 9, 9, 0);
        Check.due("refused ahead of torn", x.read(0, 2, 0, 3), -21);
        Check.due("torn()", x.torn(), 0);
        fill(x, 0, 0, 1, 0, 1, 9);
        readOf(x, 0, 2, 0, 3, 2, 2);
        fill(x, 0, 9, 9);
        readOf(x, 0, 2, -2, 3, 0, 2);
        readOf(x, 0, 1, 0, 1, 0, 3);
        Check.due("rule(7)", x.rule(7), 2);
    }

    // ---- promise 35

    @Promise(number = 35, says = "The FAULT of the latest read() that came to an end; 0.")
    static void latestThatCameToAnEnd() {
        FireLeave x = Check.city(RICH);
        Check.due("torn(), none was read", x.torn(), 0);
        x.sheet(0, 0, 3);
        fill(x, 0, 0, 1, 9);
        readOf(x, 0, 0, 0, 2, 1, 2);
        Check.bad("read(0, 0, 0, 21)", x.read(0, 0, 0, 21));
        Check.due("torn(), BAD is none", x.torn(), 2);
        Check.due("read(0, 0, 1, 1)", x.read(0, 0, 1, 1), 1);
        Check.due("torn(), whole", x.torn(), 0);
        readOf(x, 0, 1, 0, 1, 0, 3);
        x.lay(0, 1, 0);
        Check.due("read(0, 0, 0, 1), refused", x.read(0, 0, 0, 1), -20);
        Check.due("torn(), refused is none", x.torn(), 3);
        x.sheet(0, 0, -1);
        x.lay(1, 0, 0);
        Check.due("torn(), of read() alone", x.torn(), 3);
        readOf(x, 1, 0, 0, 1, 0, 1);
        readOf(x, 0, 0, 0, 0, 0, 0);
    }

    // ---- promise 36

    @Promise(number = 36, says = "How many: 0 all LOST, 1 SEEN, 2 IMAGES, 3 bytes on THE TAPE, 4 CELLS of SHEET 0 (NONE: nothing).")
    static void everyCount() {
        FireLeave x = Check.city(RICH);
        int[] none = {0, 0, 0, 0, NONE};
        for (int what = 0; what < 5; what++) {
            Check.due("count(" + what + ")", x.count(what), none[what]);
        }
        x.offer(0, 3);
        x.offer(4, 4);
        x.go(1);
        for (int i = 0; i < 6; i++) {
            x.see(0, 1, 0);
        }
        x.keep(1);
        Check.feed(x, "a".repeat(160));
        x.sheet(1, 0, 9);
        Check.due("count(4), another SHEET", x.count(4), NONE);
        x.sheet(0, 0, 40);
        int[] many = {3 + 4 + 13, 6, 1, 160, 40};
        for (int what = 0; what < 5; what++) {
            Check.due("count(" + what + ")", x.count(what), many[what]);
        }
        x.keep(0);
        Check.due("count(2)", x.count(2), 2);
    }

    @Promise(number = 36, says = "(NONE: nothing). BAD.")
    static void noSuchCount() {
        FireLeave x = Check.city(RICH);
        for (int what : new int[] {-1, 5, LOW, HIGH}) {
            Check.bad("count(" + what + ")", x.count(what));
        }
    }

    @Promise(number = 36, says = "what is refused changes nothing")
    static void refusedCallsChangeNothing() {
        FireLeave x = Check.city(RICH + "rain 2;offer 3 5;");
        x.go(4);
        x.see(0, 1, 99);
        x.keep(0);
        x.sheet(0, 2, 6);
        x.sheet(1, 2, 6);
        x.lay(0, 1, 5);
        x.read(0, 0, 0, 1);
        Check.feed(x, "dea");
        String before = Check.picture(x);
        int fits = x.fits(0);
        int lost = x.house(0, 2);
        long[] refused = {x.feed(128), x.end(4), x.rule(9), x.house(5, 0), x.alter(0, 1, 100), x.set(1, 5), x.rain(7, true),
            x.offer(0, 21), x.go(31), x.runs(31, 0), x.ahead(0, 31), x.bare(5), x.best(21, 0), x.change(21, 0), x.cooks(21, 0),
            x.appease(0, 21), x.pray(21), x.value(32, 1), x.share(0, 21, 0), x.luck(11, 1, 0), x.mean(11, 1, 0), x.see(0, 10, 1),
            x.forget(2), x.fits(2), x.look(2), x.drift(1, 61, 0), x.keep(2), x.back(2), x.sheet(0, 0, 41), x.lay(4, 0, 9),
            x.read(0, 2, 0, 21), x.count(5)};
        for (int i = 0; i < refused.length; i++) {
            Check.bad("refused call " + i, refused[i]);
        }
        Check.due("back(1)", x.back(1), STATE);
        Check.due("sheet(0, 0, -1)", x.sheet(0, 0, -1), -14);
        Check.due("lay(0, 6, 9)", x.lay(0, 6, 9), -12);
        Check.due("lay(2, 0, 9)", x.lay(2, 0, 9), -11);
        Check.due("read(0, 2, 2, 1)", x.read(0, 2, 2, 1), -20);
        Check.same("all", Check.picture(x), before);
        Check.due("fits(0)", x.fits(0), fits);
        Check.due("read(0, 2, 0, 1), the SHEET is as it was", x.read(0, 2, 0, 1), 1);
        Check.due("house(0, 2), it offers 5", x.house(0, 2), lost + 5);
        Check.feed(x, "f 9;");
        Check.due("text(), THE TAPE is as it was", x.text(), 1);
    }
}
