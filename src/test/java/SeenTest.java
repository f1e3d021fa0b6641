/** Promises 25 to 29: what was seen, kinds that fit, where to look next, nights by a seed. */
public final class SeenTest {
    public static void main(String[] args) {
        seeAndForget();
        fits();
        look();
        noHouses();
        drift();
        driftsOwnCount();
        Check.finish();
    }

    private static void seeAndForget() {
        FireLeave x = Check.city("deaf 9;rude 8;");
        int[][] wrong = {{-1, 1, 5}, {2, 1, 5}, {0, 0, 5}, {0, 10, 5}, {0, 1, -1}, {0, 1, 100}};
        for (int[] w : wrong) {
            Check.due("see(" + w[0] + ", " + w[1] + ", " + w[2] + ")", x.see(w[0], w[1], w[2]), FireLeave.BAD);
        }
        Check.due("count(1)", x.count(1), 0);
        for (int i = 1; i <= 6; i++) {
            Check.due("see, " + i, x.see(1, 9, 99), i);
        }
        Check.due("see, 7", x.see(0, 1, 0), FireLeave.FULL);
        Check.due("see, 7, a bad one", x.see(0, 0, 0), FireLeave.BAD);
        Check.due("forget(7)", x.forget(7), FireLeave.BAD);
        Check.due("forget(-1)", x.forget(-1), FireLeave.BAD);
        Check.due("forget(6)", x.forget(6), 6);
        Check.due("forget(2)", x.forget(2), 6);
        Check.due("count(1)", x.count(1), 2);
        Check.due("forget(3)", x.forget(3), FireLeave.BAD);
        Check.due("forget(0)", x.forget(0), 2);
        Check.due("forget(0)", x.forget(0), 0);
    }

    private static void fits() {
        FireLeave x = Check.city("deaf 9;rude 8;fire 0 3 1;");
        Check.due("fits(0)", x.fits(0), 16);
        Check.due("fits(1)", x.fits(1), 0);
        Check.due("fits(10)", x.fits(10), 15);
        x.see(0, 1, 6);
        Check.due("deaf: fits(0)", x.fits(0), 4);
        Check.due("deaf: fits(1)", x.fits(1), 8);
        Check.due("deaf: fits(10)", x.fits(10), 4);
        Check.due("deaf: fits(11)", x.fits(11), 15);
        x.see(1, 2, 7);
        Check.due("deaf, cook: fits(0)", x.fits(0), 1);
        Check.due("deaf, cook: fits(1)", x.fits(1), 11);
        Check.due("deaf, cook: fits(11)", x.fits(11), 8);
        x.see(1, 2, 6);
        Check.due("none: fits(0)", x.fits(0), 0);
        Check.due("none: fits(1)", x.fits(1), FireLeave.NONE);
        Check.due("none: fits(11)", x.fits(11), 0);
        Check.due("none: look(0)", x.look(0), FireLeave.NONE);
        for (int what : new int[] {-1, 2, 9, 12, Integer.MIN_VALUE}) {
            Check.due("fits(" + what + ")", x.fits(what), FireLeave.BAD);
        }
        x.forget(0);
        x.see(1, 1, 6);
        Check.due("rude: fits(1)", x.fits(1), 4);
        x.go(1);
        Check.due("from now on: fits(0)", x.fits(0), 0);
    }

    private static void look() {
        FireLeave x = Check.city("deaf 9;rude 8;fire 0 3 1;");
        // Behind one night house 0 is left 9, 9, 6, 8 by the kinds in it, and house 1 8, 6, 8, 8.
        x.alter(0, 1, 9);
        Check.due("look(2)", x.look(2), FireLeave.BAD);
        Check.due("look(-1)", x.look(-1), FireLeave.BAD);
        int where = x.look(0);
        int left = x.look(1);
        Check.due("look(1), by trying", left, leastByTrying(x));
        Check.due("look(0), by trying", worstByTrying(x, where / 10, where % 10), left);
        for (int at = 0; at < where; at++) {
            if (at % 10 > 0 && at / 10 < 2) {
                Check.due("look(0) is the least, not " + at, worstByTrying(x, at / 10, at % 10) > left ? 1 : 0, 1);
            }
        }
        FireLeave bare = Check.city("deaf 0;rude 0;");
        Check.due("bare: look(0)", bare.look(0), FireLeave.NONE);
        Check.due("bare: look(1)", bare.look(1), FireLeave.NONE);
    }

    private static int worstByTrying(FireLeave x, int h, int n) {
        int seen = x.count(1);
        int worst = 0;
        for (int v = 0; v <= 99; v++) {
            x.see(h, n, v);
            worst = Math.max(worst, x.fits(0));
            x.forget(seen);
        }
        return worst;
    }

    private static int leastByTrying(FireLeave x) {
        int least = x.fits(0);
        for (int h = 0; h < x.rule(0); h++) {
            for (int n = 1; n <= 9; n++) {
                least = Math.min(least, worstByTrying(x, h, n));
            }
        }
        return least;
    }

    private static void noHouses() {
        FireLeave x = new FireLeave();
        Check.due("no houses: see(0, 1, 0)", x.see(0, 1, 0), FireLeave.BAD);
        Check.due("no houses: fits(0)", x.fits(0), 1);
        Check.due("no houses: fits(1)", x.fits(1), 0);
        Check.due("no houses: fits(10)", x.fits(10), FireLeave.BAD);
        Check.due("no houses: look(0)", x.look(0), FireLeave.NONE);
        Check.due("no houses: drift(1, 1, 0)", x.drift(1, 1, 0), FireLeave.STATE);
        Check.due("no houses: drift(1, 0, 0)", x.drift(1, 0, 0), FireLeave.BAD);
        Check.due("no houses: drift(1, 1, 2)", x.drift(1, 1, 2), FireLeave.BAD);
    }

    private static void drift() {
        FireLeave x = Check.city("cook 40;cook 40;fire 1 9 5;rain 0;rain 1;rain 2;rain 3;rain 4;rain 5;rain 6;");
        String before = Check.picture(x);
        for (int seed : new int[] {0, 1, -1, 7, 123456789, Integer.MIN_VALUE, Integer.MAX_VALUE}) {
            for (int n = 1; n <= 60; n += 7) {
                int burnt = x.drift(seed, n, 0);
                int worth = x.drift(seed, n, 1);
                FireLeave y = Check.city("cook 40;cook 40;fire 1 9 5;");
                int sum = byHand(y, seed, n);
                Check.due("drift(" + seed + ", " + n + ", 0)", burnt, sum);
                Check.due("drift(" + seed + ", " + n + ", 1)", worth, y.rule(8));
            }
        }
        Check.same("nothing is changed", Check.picture(x), before);
        Check.due("drift(1, 0, 0)", x.drift(1, 0, 0), FireLeave.BAD);
        Check.due("drift(1, 61, 0)", x.drift(1, 61, 0), FireLeave.BAD);
        Check.due("drift(1, 1, 2)", x.drift(1, 1, 2), FireLeave.BAD);
        Check.due("drift(1, 1, -1)", x.drift(1, 1, -1), FireLeave.BAD);
    }

    private static int byHand(FireLeave y, int seed, int n) {
        long grown = seed;
        int sum = 0;
        for (int i = 0; i < n; i++) {
            grown = (grown * 1103515245L + 12345L) & 0xffffffffL;
            int got = (int) (grown >> 16) & 32767;
            if (got % 8 >= 2) {
                y.alter(y.rule(1), 0, got / 8 % 4);
                sum += y.go(1);
            }
        }
        return sum;
    }

    private static void driftsOwnCount() {
        FireLeave x = Check.city("deaf 40;deaf 40;");
        int fresh = x.drift(5, 20, 0);
        x.go(1);
        x.alter(0, 1, 40);
        x.set(1, 0);
        x.set(2, 3);
        Check.due("what was burnt before is not told", x.drift(5, 20, 0), fresh);
    }
}
