/** Promises 30 to 36: images, sheets and what is counted. */
public final class SheetTest {
    public static void main(String[] args) {
        images();
        sheets();
        narrowCells();
        reads();
        lastCells();
        readsThatAreTorn();
        readsThatAreRefused();
        counts();
        Check.finish();
    }

    private static void images() {
        FireLeave x = Check.city("deaf 9;rude 8;fire 1 5 2;rain 3;");
        Check.due("keep(2)", x.keep(2), FireLeave.BAD);
        Check.due("keep(-1)", x.keep(-1), FireLeave.BAD);
        Check.due("back(2)", x.back(2), FireLeave.BAD);
        Check.due("back(-1)", x.back(-1), FireLeave.BAD);
        Check.due("back(1)", x.back(1), FireLeave.STATE);
        x.go(2);
        x.see(0, 1, 4);
        Check.due("keep(1)", x.keep(1), 0);
        String kept = Check.picture(x);
        Check.due("count(2)", x.count(2), 1);
        x.go(9);
        x.alter(0, 0, 3);
        x.rain(3, false);
        x.forget(0);
        x.see(1, 2, 8);
        x.see(1, 3, 8);
        Check.due("back(0)", x.back(0), FireLeave.STATE);
        Check.due("back(1)", x.back(1), 2);
        Check.same("back", Check.picture(x), kept);
        Check.due("what was seen is back", x.fits(0), seenAnew());
        x.go(1);
        Check.due("keep(1) again", x.keep(1), 1);
        x.go(1);
        Check.due("back(1) again", x.back(1), 3);
        Check.due("back(1) stays", x.back(1), 3);
        Check.due("keep(0)", x.keep(0), 0);
        Check.due("count(2)", x.count(2), 2);
    }

    private static int seenAnew() {
        FireLeave x = Check.city("deaf 9;rude 8;fire 1 5 2;rain 3;");
        x.go(2);
        x.see(0, 1, 4);
        return x.fits(0);
    }

    private static void sheets() {
        FireLeave x = new FireLeave();
        Check.due("sheet(4, 0, 1)", x.sheet(4, 0, 1), FireLeave.BAD);
        Check.due("sheet(-1, 0, 1)", x.sheet(-1, 0, 1), FireLeave.BAD);
        Check.due("sheet(0, 3, 1)", x.sheet(0, 3, 1), FireLeave.BAD);
        Check.due("sheet(0, -1, 1)", x.sheet(0, -1, 1), FireLeave.BAD);
        Check.due("sheet(0, 0, 41)", x.sheet(0, 0, 41), FireLeave.BAD);
        Check.due("sheet(0, 0, -1)", x.sheet(0, 0, -1), -14);
        Check.due("sheet(0, 3, -1)", x.sheet(0, 3, -1), FireLeave.BAD);
        Check.due("sheet(4, 0, -1)", x.sheet(4, 0, -1), FireLeave.BAD);
        Check.due("count(4)", x.count(4), FireLeave.NONE);
        Check.due("torn(), none was read", x.torn(), 0);
        Check.due("sheet(0, 2, 40)", x.sheet(0, 2, 40), 1);
        Check.due("count(4)", x.count(4), 40);
        Check.due("lay(0, 39, 1)", x.lay(0, 39, 1), 1);
        Check.due("lay(0, 40, 1)", x.lay(0, 40, 1), -12);
        Check.due("lay(0, -1, 1)", x.lay(0, -1, 1), -12);
        Check.due("lay(1, 0, 1)", x.lay(1, 0, 1), -11);
        Check.due("lay(1, -1, 1)", x.lay(1, -1, 1), -11);
        Check.due("lay(4, 0, 1)", x.lay(4, 0, 1), FireLeave.BAD);
        Check.due("lay(-1, 0, 1)", x.lay(-1, 0, 1), FireLeave.BAD);
        Check.due("sheet(0, 0, -5)", x.sheet(0, 0, -5), -14);
        Check.due("count(4), as it was", x.count(4), 40);
        Check.due("sheet(0, 1, 0)", x.sheet(0, 1, 0), 1);
        Check.due("count(4)", x.count(4), 0);
        Check.due("lay(0, 0, 1)", x.lay(0, 0, 1), -12);
    }

    private static void narrowCells() {
        for (int lane = 0; lane < 3; lane++) {
            FireLeave x = Check.city("deaf 50;deaf 50;");
            int wide = lane == 0 ? 256 : 65536;
            x.sheet(2, lane, 2);
            x.lay(2, 0, wide + 1);
            x.lay(2, 1, 5 - wide);
            Check.due("lane " + lane + ": read", x.read(2, lane, 0, 1), lane == 2 ? -20 : 1);
            Check.due("lane " + lane + ": house(1, 2)", x.house(1, 2), lane == 2 ? 0 : 5);
        }
        FireLeave below = Check.city("deaf 50;deaf 50;");
        below.sheet(0, 0, 2);
        below.lay(0, 1, 255);
        Check.due("255 as a byte is below 0", below.read(0, 0, 0, 1), -20);
        below.sheet(0, 1, 2);
        below.lay(0, 1, 65535);
        Check.due("65535 as a short is below 0", below.read(0, 1, 0, 1), -20);
        below.lay(0, 1, 65536 + 7);
        below.sheet(0, 1, 2);
        Check.due("a new sheet has cells 0", below.read(0, 1, 0, 1), -20);
    }

    private static void fill(FireLeave x, int k, int... cells) {
        for (int i = 0; i < cells.length; i++) {
            x.lay(k, i, cells[i]);
        }
    }

    private static void reads() {
        FireLeave x = Check.city("deaf 50;deaf 50;fire 0 20 0;");
        x.sheet(3, 2, 6);
        fill(x, 3, 0, 3, 1, 4, 0, 5);
        Check.due("read(4, 2, 0, 1)", x.read(4, 2, 0, 1), FireLeave.BAD);
        Check.due("read(-1, 2, 0, 1)", x.read(-1, 2, 0, 1), FireLeave.BAD);
        Check.due("read(3, 3, 0, 1)", x.read(3, 3, 0, 1), FireLeave.BAD);
        Check.due("read(3, -1, 0, 1)", x.read(3, -1, 0, 1), FireLeave.BAD);
        Check.due("read(3, 2, 0, 21)", x.read(3, 2, 0, 21), FireLeave.BAD);
        Check.due("read(3, 2, 0, -1)", x.read(3, 2, 0, -1), FireLeave.BAD);
        Check.due("rule(7)", x.rule(7), 0);
        Check.due("read(3, 2, 0, 0)", x.read(3, 2, 0, 0), 0);
        Check.due("read(3, 2, 0, 3)", x.read(3, 2, 0, 3), 3);
        Check.due("torn()", x.torn(), 0);
        Check.due("house(0, 2)", x.house(0, 2), 8);
        Check.due("house(1, 2)", x.house(1, 2), 4);
        Check.due("rule(2)", x.rule(2), 8);
        Check.due("rule(7)", x.rule(7), 12);
        Check.due("read(3, 2, 2, 1)", x.read(3, 2, 2, 1), 1);
        Check.due("house(1, 2)", x.house(1, 2), 8);
    }

    private static void lastCells() {
        for (int lane = 0; lane < 3; lane++) {
            FireLeave x = Check.city("deaf 50;deaf 50;fire 0 20 0;");
            x.sheet(1, lane, 40);
            x.lay(1, 38, 1);
            x.lay(1, 39, 6);
            Check.due("read(1, " + lane + ", 38, 1)", x.read(1, lane, 38, 1), 1);
            Check.due("house(1, 2)", x.house(1, 2), 6);
            Check.due("read(1, " + lane + ", 38, 2)", x.read(1, lane, 38, 2), 1);
            Check.due("torn()", x.torn(), 2);
            Check.due("read(1, " + lane + ", 39, 1)", x.read(1, lane, 39, 1), 0);
            for (int i = 0; i < 40; i++) {
                x.lay(1, i, 1);
            }
            Check.due("read(1, " + lane + ", 0, 20)", x.read(1, lane, 0, 20), 20);
            Check.due("house(1, 2)", x.house(1, 2), 32);
        }
    }

    private static void readsThatAreTorn() {
        FireLeave x = Check.city("deaf 50;deaf 50;fire 0 20 0;");
        x.sheet(0, 1, 5);
        fill(x, 0, 0, 3, 1, 4, 0);
        Check.due("read(1, 1, 0, 2)", x.read(1, 1, 0, 2), 0);
        Check.due("torn(), nothing", x.torn(), 1);
        Check.due("read(0, 0, 0, 2)", x.read(0, 0, 0, 2), 0);
        Check.due("torn(), another lane", x.torn(), 3);
        Check.due("read(0, 0, -1, 2)", x.read(0, 0, -1, 2), 0);
        Check.due("torn(), another lane ahead of a place", x.torn(), 3);
        Check.due("read(0, 1, 0, 3)", x.read(0, 1, 0, 3), 2);
        Check.due("torn(), half of an offer", x.torn(), 2);
        Check.due("rule(7)", x.rule(7), 7);
        for (int f : new int[] {-1, -2, 5, Integer.MAX_VALUE, Integer.MIN_VALUE}) {
            Check.due("read(0, 1, " + f + ", 2)", x.read(0, 1, f, 2), 0);
            Check.due("torn()", x.torn(), 2);
        }
        Check.due("read(0, 1, 2, 1)", x.read(0, 1, 2, 1), 1);
        Check.due("torn(), whole", x.torn(), 0);
        x.read(0, 0, 0, 1);
        Check.due("read(0, 1, 99, 0)", x.read(0, 1, 99, 0), 0);
        Check.due("torn(), nothing was asked for", x.torn(), 0);
    }

    private static void readsThatAreRefused() {
        FireLeave x = Check.city("deaf 9;deaf 50;fire 0 20 0;");
        x.sheet(0, 2, 8);
        fill(x, 0, 0, 5, 1, 4, 0, 5, 7, 7);
        x.read(1, 0, 0, 1);
        String before = Check.picture(x);
        Check.due("the third, for the first took of it", x.read(0, 2, 0, 4), -22);
        Check.same("none came, torn() stays", Check.picture(x), before);
        Check.due("no such house", x.read(0, 2, 6, 1), -20);
        Check.due("no such house, the second", x.read(0, 2, 4, 2), -21);
        Check.due("a wrong number of it", x.read(0, 2, 3, 1), -20);
        x.lay(0, 1, 0);
        Check.due("an offer of 0", x.read(0, 2, 0, 1), -20);
        x.lay(0, 1, 21);
        Check.due("an offer of 21", x.read(0, 2, 0, 1), -20);
        Check.due("read(0, 2, 0, 21)", x.read(0, 2, 0, 21), FireLeave.BAD);
        Check.same("nothing is changed", Check.picture(x), before);
        Check.due("torn()", x.torn(), 1);
    }

    private static void counts() {
        FireLeave x = Check.city("deaf 9;cook 50;fire 0 5 0;");
        x.go(2);
        Check.due("count(0)", x.count(0), 6);
        x.alter(0, 1, 99);
        Check.due("count(0)", x.count(0), 6);
        Check.due("count(-1)", x.count(-1), FireLeave.BAD);
        Check.due("count(5)", x.count(5), FireLeave.BAD);
        x.see(0, 1, 1);
        Check.due("count(1)", x.count(1), 1);
        x.feed('a');
        Check.due("count(3)", x.count(3), 1);
    }
}
