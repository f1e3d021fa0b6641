/** A test for each sentence on promises 25 to 29 (and their terms) that names a boundary. */
public final class EdgeSeenTest {
    private static final int FULL = FireLeave.FULL, STATE = FireLeave.STATE, NONE = FireLeave.NONE;
    private static final int LOW = Integer.MIN_VALUE, HIGH = Integer.MAX_VALUE;

    public static void main(String[] args) throws IllegalAccessException {
        Sentences.run(EdgeSeenTest.class);
    }

    /** RAIN in every NIGHT of seven but one. */
    private static String dryIn(int dry) {
        StringBuilder text = new StringBuilder();
        for (int d = 0; d < 7; d++) {
            text.append(d == dry ? "" : "rain " + d + ";");
        }
        return text.toString();
    }

    // ---- promise 25

    @Promise(number = 25, says = "SEEN: behind n NIGHTS (1 to 9) from now on WORTH of a HOUSE is v (0 to 99): how many are.")
    static void leastAndMostSeen() {
        FireLeave x = Check.city("deaf 9;rude 8;cook 7;deaf 6;deaf 5;");
        Check.due("see(0, 1, 0)", x.see(0, 1, 0), 1);
        Check.due("see(4, 9, 99)", x.see(4, 9, 99), 2);
        Check.due("see(4, 9, 99), once more", x.see(4, 9, 99), 3);
        Check.due("count(1)", x.count(1), 3);
    }

    @Promise(number = 25, says = "how many are. BAD; FULL.")
    static void seeRefused() {
        FireLeave x = Check.city("deaf 9;rude 8;");
        int[][] wrong = {{0, 0, 9}, {0, 10, 9}, {0, -1, 9}, {0, LOW, 9}, {0, HIGH, 9}, {0, 1, -1}, {0, 1, 100}, {0, 1, LOW},
            {0, 1, HIGH}, {-1, 1, 9}, {2, 1, 9}, {5, 1, 9}, {LOW, 1, 9}, {HIGH, 1, 9}};
        for (int[] w : wrong) {
            Check.bad("see(" + w[0] + ", " + w[1] + ", " + w[2] + ")", x.see(w[0], w[1], w[2]));
        }
        Check.due("count(1)", x.count(1), 0);
    }

    @Promise(number = 25, says = "SEEN (6): behind n NIGHTS (1 to 9) from now on a HOUSE has so much WORTH.")
    static void sixAreSeen() {
        FireLeave x = Check.city("polite 9;polite 8;fire 0 0 0;");
        for (int i = 1; i <= 6; i++) {
            Check.due("see, " + i, x.see(1, 1, 8), i);
        }
        int fits = x.fits(0);
        Check.due("see, 7", x.see(0, 1, 50), FULL);
        Check.bad("see(0, 10, 9), the first that fits", x.see(0, 10, 9));
        Check.bad("see(2, 1, 9), the first that fits", x.see(2, 1, 9));
        Check.due("count(1)", x.count(1), 6);
        Check.due("fits(0), nothing is changed", x.fits(0), fits);
        x.forget(5);
        Check.due("see, 6 again", x.see(0, 1, 50), 6);
        Check.due("fits(0), by none", x.fits(0), 0);
    }

    // ---- promise 26

    @Promise(number = 26, says = "SEEN are the first n alone: how many there were.")
    static void forgetAllAndNone() {
        FireLeave x = Check.city("polite 9;polite 8;fire 0 0 0;");
        Check.due("forget(0) of none", x.forget(0), 0);
        x.see(0, 1, 8);
        x.see(0, 1, 50);
        Check.due("fits(0), by none", x.fits(0), 0);
        Check.due("forget(2), all stay", x.forget(2), 2);
        Check.due("count(1)", x.count(1), 2);
        Check.due("forget(1)", x.forget(1), 2);
        Check.due("fits(0), a cook, by the first", x.fits(0), 4);
        Check.due("fits(1)", x.fits(1), 12);
        Check.due("forget(0)", x.forget(0), 1);
        Check.due("count(1)", x.count(1), 0);
        Check.due("fits(0)", x.fits(0), 16);
    }

    @Promise(number = 26, says = "how many there were. BAD.")
    static void notSoManySeen() {
        FireLeave x = Check.city("polite 9;");
        Check.bad("forget(1) of none", x.forget(1));
        x.see(0, 1, 8);
        x.see(0, 2, 8);
        for (int n : new int[] {-1, 3, 6, 7, LOW, HIGH}) {
            Check.bad("forget(" + n + ")", x.forget(n));
        }
        Check.due("count(1)", x.count(1), 2);
    }

    // ---- promise 27

    @Promise(number = 27, says = "KINDS of all HOUSES that FIT: how many (what 0), the first by numbers (1); 10 and h: KINDS in a HOUSE by some (bits).")
    static void fitsOfNothingSeen() {
        FireLeave x = Check.city("deaf 9;rude 8;cook 7;deaf 6;deaf 5;");
        Check.due("fits(0)", x.fits(0), 1024);
        Check.due("fits(1)", x.fits(1), 0);
        for (int h = 0; h < 5; h++) {
            Check.due("fits(" + (10 + h) + ")", x.fits(10 + h), 15);
        }
        FireLeave two = Check.city("polite 9;deaf 9;fire 0 3 0;");
        two.see(0, 1, 9);
        Check.due("two: fits(0), polite or rude", two.fits(0), 8);
        Check.due("two: fits(10)", two.fits(10), 3);
        two.see(1, 1, 8);
        Check.due("two: fits(0), rude", two.fits(0), 4);
        Check.due("two: fits(1)", two.fits(1), 4);
        Check.due("two: fits(10)", two.fits(10), 2);
        Check.due("two: fits(11)", two.fits(11), 15);
    }

    @Promise(number = 27, says = "KINDS of all HOUSES FIT, if by them (all else as it is) all would be as SEEN; told by a number to the base 4, HOUSE 0's figure the highest.")
    static void figuresToTheBaseFour() {
        String five = "polite 9;polite 9;polite 9;polite 9;polite 9;";
        int[] first = {512, 128, 32, 8, 2};
        for (int h = 0; h < 5; h++) {
            FireLeave x = Check.city(five + "fire " + h + " 3 0;");
            x.see(h, 1, 6);
            Check.due("fits(0), deaf in " + h, x.fits(0), 256);
            Check.due("fits(1), deaf in " + h, x.fits(1), first[h]);
            for (int other = 0; other < 5; other++) {
                Check.due("fits(" + (10 + other) + "), deaf in " + h, x.fits(10 + other), other == h ? 4 : 15);
            }
        }
        FireLeave cooks = Check.city("polite 9;polite 9;");
        cooks.see(0, 1, 8);
        cooks.see(1, 2, 8);
        Check.due("fits(1), two cooks", cooks.fits(1), 15);
    }

    @Promise(number = 27, says = "behind n NIGHTS (1 to 9) from now on a HOUSE has so much WORTH.")
    static void seenBehindNineNights() {
        // It is asked in the second NIGHT and in the ninth.
        String text = "polite 9;fire 0 1 0;" + dryIn(1);
        int[] left = {9, 6, 8, 7};
        for (int kind = 0; kind < 4; kind++) {
            FireLeave x = Check.city(text);
            x.see(0, 9, left[kind]);
            Check.due("fits(0), " + left[kind], x.fits(0), 1);
            Check.due("fits(1), " + left[kind], x.fits(1), kind);
        }
        FireLeave eight = Check.city(text);
        eight.see(0, 8, 8);
        Check.due("fits(0) behind 8", eight.fits(0), 3);
        eight.see(0, 1, 9);
        Check.due("fits(0) behind 1 too", eight.fits(0), 3);
        eight.see(0, 1, 8);
        Check.due("fits(0), not behind 1", eight.fits(0), 0);
    }

    @Promise(number = 27, says = "BAD; NONE (1): there are none.")
    static void noneFits() {
        FireLeave x = Check.city("polite 9;deaf 9;fire 0 3 0;");
        x.see(0, 1, 10);
        Check.due("fits(0)", x.fits(0), 0);
        Check.due("fits(1)", x.fits(1), NONE);
        Check.due("fits(10)", x.fits(10), 0);
        Check.due("fits(11)", x.fits(11), 0);
        for (int what : new int[] {-1, 2, 9, 12, 14, LOW, LOW + 10, HIGH}) {
            Check.bad("fits(" + what + ")", x.fits(what));
        }
    }

    // ---- promise 28

    @Promise(number = 28, says = "Where to look next, behind n NIGHTS (1 to 9) at a HOUSE's WORTH, so that of KINDS that FIT fewest are left at the worst, fewer than now:")
    static void lookBehindNineNights() {
        // Polite, rude, deaf, cook leave 9, 8, 6, 8, then 9, 6, 6, 7, then 9, 3, 6, 6, then 9, 0, 6, 5.
        FireLeave x = Check.city("deaf 9;fire 0 3 0;");
        Check.due("look(0)", x.look(0), 4);
        Check.due("look(1)", x.look(1), 1);
        FireLeave ninth = Check.city("deaf 9;fire 0 1 0;" + dryIn(1));
        Check.due("look(0), asked in NIGHTS 1 and 8", ninth.look(0), 9);
        Check.due("look(1), asked in NIGHTS 1 and 8", ninth.look(1), 1);
        FireLeave tenth = Check.city("deaf 9;fire 0 1 0;" + dryIn(2));
        Check.due("look(0), asked in NIGHTS 2 and 9", tenth.look(0), 3);
        Check.due("look(1), asked in NIGHTS 2 and 9", tenth.look(1), 3);
        FireLeave first = Check.city("deaf 9;fire 0 1 0;" + dryIn(0));
        Check.due("look(0), asked in NIGHTS 0 and 7", first.look(0), 8);
        // 2, 1, 0, 1 are left, then 2, 0, 0, 0.
        FireLeave next = Check.city("deaf 2;fire 0 3 0;");
        Check.due("look(0), behind one NIGHT", next.look(0), 1);
        Check.due("look(1), behind one NIGHT", next.look(1), 2);
        FireLeave last = Check.city("deaf 99;fire 0 20 0;" + dryIn(2));
        last.go(2);
        Check.due("look(0), asked now and in 7 NIGHTS", last.look(0), 8);
        last.see(0, 8, 96);
        Check.due("look(0), one is left", last.look(0), NONE);
    }

    @Promise(number = 28, says = "10 times the HOUSE and the NIGHTS, of several the least (what 0), how many these are (1).")
    static void leastOfSeveralPlaces() {
        // Of HOUSE 0 alone it is asked; rude costs HOUSE 1 one, a cook HOUSE 0: 12 of 16 are left by either.
        FireLeave x = Check.city("polite 9;polite 9;fire 0 0 0;" + dryIn(2));
        Check.due("look(0), not 13", x.look(0), 3);
        Check.due("look(1)", x.look(1), 12);
        // Behind HOUSE 1 too HOUSE 0 leaves 9 at the worst, HOUSE 1 leaves 8.
        FireLeave both = Check.city("polite 9;polite 9;fire 0 0 0;" + dryIn(0));
        Check.due("both: look(0), not 19", both.look(0), 18);
        Check.due("both: look(1)", both.look(1), 8);
    }

    @Promise(number = 28, says = "fewest are left at the worst, fewer than now")
    static void lookAtTheMostHousesAndWorth() {
        // Of HOUSE 4 alone it is asked: polite and deaf, at HUNGER 0, leave all as it is.
        FireLeave x = Check.city("polite 99;polite 99;polite 99;polite 99;polite 99;fire 4 0 0;" + dryIn(2));
        Check.due("look(0)", x.look(0), 3);
        Check.due("look(1)", x.look(1), 768);
        x.see(0, 9, 99);
        Check.due("look(0), it is not rude", x.look(0), 43);
        Check.due("look(1), it is not rude", x.look(1), 512);
    }

    @Promise(number = 28, says = "BAD; NONE: nowhere.")
    static void lookNowhere() {
        FireLeave x = Check.city("polite 9;polite 9;rain 0;rain 1;rain 2;rain 3;rain 4;rain 5;rain 6;");
        FireLeave one = Check.city("deaf 9;fire 0 3 0;");
        one.see(0, 4, 9);
        FireLeave none = Check.city("deaf 9;fire 0 3 0;");
        none.see(0, 4, 99);
        for (int what = 0; what < 2; what++) {
            Check.due("nothing is asked: look(" + what + ")", x.look(what), NONE);
            Check.due("one fits: look(" + what + ")", one.look(what), NONE);
            Check.due("none fits: look(" + what + ")", none.look(what), NONE);
            Check.due("no houses: look(" + what + ")", new FireLeave().look(what), NONE);
        }
        for (int what : new int[] {-1, 2, 10, LOW, HIGH}) {
            Check.bad("look(" + what + ")", x.look(what));
        }
    }

    // ---- promise 29

    private static void drifts(FireLeave x, int seed, int n, int burnt, int worth) {
        Check.due("drift(" + seed + ", " + n + ", 0)", x.drift(seed, n, 0), burnt);
        Check.due("drift(" + seed + ", " + n + ", 1)", x.drift(seed, n, 1), worth);
    }

    @Promise(number = 29, says = "ahead of each the seed becomes seed times 1103515245 and 12345; bits 16 to 30 of it are got: is got modulo 8 below 2, it rains; else the KIND of the HOUSE where FIRE is becomes got by 8 (down) modulo 4:")
    static void oneNightByASeed() {
        FireLeave x = Check.city("deaf 9;deaf 9;");
        drifts(x, 0, 1, 0, 18);
        drifts(x, 4, 1, 0, 18);
        Check.tell(x, "polite 9;polite 9;");
        // Got is 3634 by seed 8, 17747 by 3: 2 and 3 modulo 8, 2 modulo 4 behind that.
        drifts(x, 8, 1, 3, 15);
        drifts(x, 3, 1, 3, 15);
        // 908 by seed 2, 18655 by 5, 16838 by 1: rude, a cook, polite.
        drifts(x, 2, 1, 1, 17);
        drifts(x, 5, 1, 0, 17);
        Check.tell(x, "deaf 9;deaf 9;");
        drifts(x, 1, 1, 0, 18);
        drifts(x, 4, 1, 0, 18);
    }

    @Promise(number = 29, says = "bits 16 to 30 of it are got")
    static void seedsWrapAround() {
        FireLeave x = Check.city("deaf 50;rude 50;cook 50;");
        for (int n = 1; n <= 60; n += 59) {
            for (int what = 0; what < 2; what++) {
                // Bit 31 of a seed comes to nothing.
                Check.due("drift(MIN, " + n + ", " + what + ")", x.drift(LOW, n, what), x.drift(0, n, what));
                Check.due("drift(MAX, " + n + ", " + what + ")", x.drift(HIGH, n, what), x.drift(-1, n, what));
            }
            for (int seed : new int[] {LOW, -123456789, -1, 0, 1, 7, HIGH}) {
                FireLeave y = Check.city("deaf 50;rude 50;cook 50;");
                int burnt = byHand(y, seed, n);
                drifts(x, seed, n, burnt, y.rule(8));
            }
        }
    }

    /** The nights of a seed by alter() and go() in a city without RAIN: how much is burnt. */
    private static int byHand(FireLeave y, int seed, int n) {
        long grown = seed & 0xffffffffL;
        int burnt = 0;
        for (int i = 0; i < n; i++) {
            grown = (grown * 1103515245L + 12345L) & 0xffffffffL;
            long got = grown >> 16 & 32767;
            if (got % 8 >= 2) {
                y.alter(y.rule(1), 0, (int) (got / 8 % 4));
                burnt += y.go(1);
            }
        }
        return burnt;
    }

    @Promise(number = 29, says = "By itself, n NIGHTS (1 to 60) by a seed, RAIN aside:")
    static void rainAside() {
        FireLeave dry = Check.city("deaf 50;rude 50;cook 50;fire 2 9 3;");
        FireLeave wet = Check.city("deaf 50;rude 50;cook 50;fire 2 9 3;rain 0;rain 1;rain 2;rain 3;rain 4;rain 5;rain 6;");
        for (int i = 0; i < 33; i++) {
            wet.go(30);
        }
        wet.go(9);
        String before = Check.picture(wet);
        for (int n : new int[] {1, 2, 59, 60}) {
            Check.due("drift(7, " + n + ", 0)", wet.drift(7, n, 0), dry.drift(7, n, 0));
            Check.due("drift(7, " + n + ", 1)", wet.drift(7, n, 1), dry.drift(7, n, 1));
        }
        Check.same("by itself", Check.picture(wet), before);
    }

    @Promise(number = 29, says = "how much is burnt in all (what 0), all WORTH in the end (1).")
    static void everyNightCounts() {
        FireLeave x = Check.city("deaf 99;deaf 99;deaf 99;deaf 99;deaf 99;");
        int before = -1;
        int changed = 0;
        for (int n = 1; n <= 60; n++) {
            FireLeave y = Check.city("deaf 99;deaf 99;deaf 99;deaf 99;deaf 99;");
            int burnt = byHand(y, 1, n);
            Check.due("drift(1, " + n + ", 0)", x.drift(1, n, 0), burnt);
            Check.due("drift(1, " + n + ", 1)", x.drift(1, n, 1), y.rule(8));
            changed += burnt != before ? 1 : 0;
            before = burnt;
        }
        Check.due("the nights of this seed do burn", changed > 9 ? 1 : 0, 1);
    }

    @Promise(number = 29, says = "BAD; STATE: there are no HOUSES.")
    static void driftRefused() {
        FireLeave none = new FireLeave();
        FireLeave x = Check.city("deaf 9;");
        Check.due("no houses: drift(1, 1, 0)", none.drift(1, 1, 0), STATE);
        Check.due("no houses: drift(1, 60, 1)", none.drift(1, 60, 1), STATE);
        for (int n : new int[] {-1, 0, 61, LOW, HIGH}) {
            Check.bad("drift(1, " + n + ", 0)", x.drift(1, n, 0));
            Check.bad("no houses: drift(1, " + n + ", 0), the first that fits", none.drift(1, n, 0));
        }
        for (int what : new int[] {-1, 2, LOW, HIGH}) {
            Check.bad("drift(1, 1, " + what + ")", x.drift(1, 1, what));
            Check.bad("no houses: drift(1, 1, " + what + "), the first that fits", none.drift(1, 1, what));
        }
    }
}
