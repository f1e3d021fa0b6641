/** A test for each sentence on promises 16 to 24 (and their terms) that names a boundary. */
public final class EdgeHomeTest {
    private static final int NONE = FireLeave.NONE;
    private static final int LOW = Integer.MIN_VALUE, HIGH = Integer.MAX_VALUE;
    private static final int[] NO_NIGHTS = {-1, 21, 30, LOW, HIGH};
    private static final int[] NO_PARTS = {-1, 2, 10, LOW, HIGH};
    private static final String POLITE_FIVE = "polite 99;polite 99;polite 99;polite 99;polite 99;";

    public static void main(String[] args) throws IllegalAccessException {
        Sentences.run(EdgeHomeTest.class);
    }

    private static void shared(FireLeave x, int h, int n, long upper, long lower) {
        Check.due("share(" + h + ", " + n + ", 0)", x.share(h, n, 0), upper);
        Check.due("share(" + h + ", " + n + ", 1)", x.share(h, n, 1), lower);
    }

    private static void lucky(FireLeave x, int v, int n, long upper, long lower) {
        Check.due("luck(" + v + ", " + n + ", 0)", x.luck(v, n, 0), upper);
        Check.due("luck(" + v + ", " + n + ", 1)", x.luck(v, n, 1), lower);
    }

    private static void meant(FireLeave x, int v, int n, long upper, long lower) {
        Check.due("mean(" + v + ", " + n + ", 0)", x.mean(v, n, 0), upper);
        Check.due("mean(" + v + ", " + n + ", 1)", x.mean(v, n, 1), lower);
    }

    // ---- promise 16

    @Promise(number = 16, says = "KINDS of all HOUSES by which LOSS of n NIGHTS (0 to 20) is least, of several the first by numbers (base 4): that LOSS (what 0); 10 and h: the KIND in a HOUSE.")
    static void bestOfNoneAndTwenty() {
        FireLeave x = Check.city("cook 9;rude 9;deaf 9;cook 9;rude 9;fire 0 20 9;");
        for (int n : new int[] {0, 1, 20}) {
            Check.due("best(" + n + ", 0)", x.best(n, 0), 0);
            for (int h = 0; h < 5; h++) {
                Check.due("best(" + n + ", " + (10 + h) + ")", x.best(n, 10 + h), 0);
            }
        }
        FireLeave none = new FireLeave();
        Check.due("no houses: best(20, 0)", none.best(20, 0), 0);
        Check.bad("no houses: best(20, 10)", none.best(20, 10));
    }

    @Promise(number = 16, says = "KINDS of all HOUSES by which LOSS of n NIGHTS (0 to 20) is least")
    static void bestBehindNightsThatLost() {
        FireLeave x = Check.city("deaf 50;rude 50;cook 50;fire 0 20 9;offer 2 5;");
        x.go(9);
        Check.due("runs(20, 0), there is something to lose", x.runs(20, 0) > 0 ? 1 : 0, 1);
        Check.due("best(20, 0), these NIGHTS alone", x.best(20, 0), 0);
        for (int h = 0; h < 3; h++) {
            x.runs(20, 0);
            Check.due("best(20, " + (10 + h) + ")", x.best(20, 10 + h), 0);
        }
    }

    @Promise(number = 16, says = "the KIND in a HOUSE. BAD.")
    static void bestRefused() {
        FireLeave x = Check.city("cook 9;rude 9;");
        for (int n : NO_NIGHTS) {
            Check.bad("best(" + n + ", 0)", x.best(n, 0));
            Check.bad("best(" + n + ", 10)", x.best(n, 10));
        }
        for (int what : new int[] {-1, 1, 9, 12, 15, LOW, LOW + 10, HIGH}) {
            Check.bad("best(3, " + what + ")", x.best(3, what));
        }
    }

    // ---- promise 17

    @Promise(number = 17, says = "The one HOUSE of which KIND is to be another one so that LOSS of n NIGHTS (0 to 20) is least, less than as it is")
    static void changeForLess() {
        FireLeave x = Check.city("deaf 9;deaf 9;fire 0 3 0;");
        Check.due("change(0, 0)", x.change(0, 0), NONE);
        Check.due("change(1, 0)", x.change(1, 0), 0);
        Check.due("change(1, 1)", x.change(1, 1), 0);
        Check.due("change(2, 0), a cook in HOUSE 0 makes as much, not less", x.change(2, 0), NONE);
        FireLeave twenty = Check.city("rude 99;");
        Check.due("change(20, 0)", twenty.change(20, 0), 0);
        Check.due("change(20, 1)", twenty.change(20, 1), 0);
        FireLeave last = Check.city("polite 9;polite 9;polite 9;polite 9;deaf 9;fire 4 3 0;");
        Check.due("last: change(1, 0)", last.change(1, 0), 40);
    }

    @Promise(number = 17, says = "of several the first by HOUSES, then KINDS: 10 times the HOUSE and the KIND (what 0), that LOSS (1).")
    static void firstOfSeveralChanges() {
        // LOSS is 0 by HOUSE 0 deaf, at HUNGER 0, and by HOUSE 1 polite.
        FireLeave x = Check.city("polite 4;deaf 3;rude 5;fire 0 0 2;");
        Check.due("change(2, 0)", x.change(2, 0), 2);
        Check.due("change(2, 1)", x.change(2, 1), 0);
        // LOSS is 1 by either of the rude polite or deaf.
        FireLeave rude = Check.city("polite 9;rude 9;rude 9;fire 1 0 0;");
        Check.due("rude: change(2, 0)", rude.change(2, 0), 10);
        Check.due("rude: change(2, 1)", rude.change(2, 1), 1);
    }

    @Promise(number = 17, says = "BAD; NONE: by none.")
    static void changeByNone() {
        FireLeave polite = Check.city("polite 9;cook 0;");
        FireLeave none = new FireLeave();
        for (int what = 0; what < 2; what++) {
            Check.due("polite: change(20, " + what + ")", polite.change(20, what), NONE);
            Check.due("no houses: change(20, " + what + ")", none.change(20, what), NONE);
        }
        for (int n : NO_NIGHTS) {
            Check.bad("change(" + n + ", 0)", polite.change(n, 0));
            Check.bad("change(" + n + ", 1)", polite.change(n, 1));
        }
        for (int what : NO_PARTS) {
            Check.bad("change(3, " + what + "), the first that fits", polite.change(3, what));
        }
    }

    // ---- promise 18

    @Promise(number = 18, says = "The fewest HOUSES more in which there are to be cooks so that nothing is burnt in n NIGHTS (0 to 20): how many (what 0), the least set of so many (1; bits).")
    static void noneAndAllCooks() {
        FireLeave x = Check.city("deaf 9;deaf 9;deaf 9;deaf 9;deaf 9;fire 0 20 0;");
        int[] sets = {0, 1, 3, 7, 15, 31};
        for (int n = 0; n <= 5; n++) {
            Check.due("cooks(" + n + ", 0)", x.cooks(n, 0), n);
            Check.due("cooks(" + n + ", 1)", x.cooks(n, 1), sets[n]);
        }
        Check.due("cooks(20, 0)", x.cooks(20, 0), 5);
        Check.due("cooks(20, 1)", x.cooks(20, 1), 31);
    }

    @Promise(number = 18, says = "the least set of so many (1; bits).")
    static void fewestAheadOfLeast() {
        FireLeave least = Check.city("polite 9;deaf 9;fire 0 0 0;");
        Check.due("least: cooks(2, 0)", least.cooks(2, 0), 1);
        Check.due("least: cooks(2, 1), not 2", least.cooks(2, 1), 1);
        // HOUSES 0 and 1 together would do, but so does HOUSE 2 alone.
        FireLeave fewest = Check.city("polite 9;polite 9;deaf 9;fire 0 1 0;");
        Check.due("fewest: cooks(3, 0)", fewest.cooks(3, 0), 1);
        Check.due("fewest: cooks(3, 1), not 3", fewest.cooks(3, 1), 4);
    }

    @Promise(number = 18, says = "The fewest HOUSES more")
    static void cooksThatAreThere() {
        FireLeave x = Check.city("cook 9;deaf 9;fire 0 2 0;");
        Check.due("cooks(2, 0)", x.cooks(2, 0), 1);
        Check.due("cooks(2, 1)", x.cooks(2, 1), 2);
        FireLeave all = Check.city("cook 9;cook 0;");
        Check.due("all: cooks(20, 0)", all.cooks(20, 0), 0);
        Check.due("all: cooks(20, 1)", all.cooks(20, 1), 0);
        FireLeave none = new FireLeave();
        Check.due("no houses: cooks(20, 0)", none.cooks(20, 0), 0);
        Check.due("no houses: cooks(20, 1)", none.cooks(20, 1), 0);
    }

    @Promise(number = 18, says = "(1; bits). BAD; NONE: by none.")
    static void cooksRefused() {
        FireLeave x = Check.city("deaf 9;polite 9;");
        for (int n : NO_NIGHTS) {
            Check.bad("cooks(" + n + ", 0)", x.cooks(n, 0));
            Check.bad("cooks(" + n + ", 1)", x.cooks(n, 1));
        }
        for (int what : NO_PARTS) {
            Check.bad("cooks(3, " + what + ")", x.cooks(3, what));
        }
    }

    // ---- promise 19

    @Promise(number = 19, says = "The least OFFER of a HOUSE now (0 to 20; 0: none) by which nothing of it is burnt in n NIGHTS (0 to 20).")
    static void leastAndMostToAppease() {
        FireLeave x = Check.city("deaf 99;polite 9;fire 0 20 0;");
        Check.due("appease(0, 0), nothing goes", x.appease(0, 0), 0);
        Check.due("appease(0, 1), the most", x.appease(0, 1), 20);
        x.set(2, 1);
        Check.due("appease(0, 1)", x.appease(0, 1), 1);
        x.set(2, 0);
        Check.due("appease(0, 1), none", x.appease(0, 1), 0);
        Check.due("appease(1, 20), none", x.appease(1, 20), 0);
        Check.due("house(0, 1), nothing is offered", x.house(0, 1), 99);
        FireLeave last = Check.city("rude 9;polite 9;polite 9;polite 9;deaf 5;fire 4 3 0;");
        Check.due("appease(4, 20)", last.appease(4, 20), 5);
        Check.due("appease(1, 1), asked of HOUSE 4 alone", last.appease(1, 1), 0);
    }

    @Promise(number = 19, says = "BAD; NONE: by none that it can make.")
    static void offersThatItCanMake() {
        FireLeave x = Check.city("rude 9;polite 20;fire 0 0 0;");
        Check.due("appease(1, 1), bare then", x.appease(1, 1), 20);
        x.alter(1, 1, 21);
        Check.due("appease(1, 1), 21 can't be offered", x.appease(1, 1), NONE);
        x.alter(1, 1, 1);
        Check.due("appease(1, 1)", x.appease(1, 1), 1);
        x.alter(1, 1, 0);
        Check.due("appease(1, 1), bare now", x.appease(1, 1), 0);
        FireLeave deaf = Check.city("deaf 19;fire 0 20 0;");
        Check.due("appease(0, 1), all that it has", deaf.appease(0, 1), 19);
        FireLeave again = Check.city("deaf 30;polite 9;fire 0 3 0;");
        Check.due("appease(0, 3), HUNGER comes again", again.appease(0, 3), NONE);
    }

    @Promise(number = 19, says = "BAD; NONE: by none that it can make.")
    static void appeaseRefused() {
        FireLeave x = Check.city("deaf 9;polite 9;");
        for (int n : NO_NIGHTS) {
            Check.bad("appease(0, " + n + ")", x.appease(0, n));
        }
        for (int h : new int[] {-1, 2, 5, LOW, HIGH}) {
            Check.bad("appease(" + h + ", 3)", x.appease(h, 3));
        }
    }

    // ---- promise 20

    @Promise(number = 20, says = "The NIGHTS of seven (bits 0 to 6), each alone more of RAIN, by which LOSS of n NIGHTS (0 to 20) would be less.")
    static void nightsToPrayFor() {
        FireLeave x = Check.city("rude 99;polite 99;");
        Check.due("pray(0)", x.pray(0), 0);
        Check.due("pray(1)", x.pray(1), 1);
        Check.due("pray(3)", x.pray(3), 7);
        Check.due("pray(20)", x.pray(20), 127);
        x.rain(3, true);
        Check.due("pray(20), there is RAIN in NIGHT 3", x.pray(20), 119);
        Check.due("rule(4), as it was", x.rule(4), 8);
        FireLeave last = Check.city("rude 99;polite 99;");
        last.go(6);
        Check.due("pray(1), NIGHT 6", last.pray(1), 64);
        last.go(2);
        Check.due("pray(1), NIGHT 8 is 1 of seven", last.pray(1), 2);
    }

    @Promise(number = 20, says = "would be less. BAD.")
    static void rainThatHelpsNot() {
        FireLeave x = Check.city("deaf 9;polite 9;fire 0 2 0;");
        Check.due("pray(2), as much is burnt later", x.pray(2), 0);
        Check.due("polite: pray(20)", Check.city("polite 9;").pray(20), 0);
        Check.due("no houses: pray(20)", new FireLeave().pray(20), 0);
        for (int n : NO_NIGHTS) {
            Check.bad("pray(" + n + ")", x.pray(n));
        }
    }

    // ---- promise 21

    @Promise(number = 21, says = "1000 and VALUE of some HOUSES (bits) for n NIGHTS (0 to 20).")
    static void valueOfNoneAndAll() {
        FireLeave x = Check.city("deaf 9;polite 9;rude 9;fire 0 4 3;");
        for (int n : new int[] {0, 3, 20}) {
            Check.due("value(0, " + n + ")", x.value(0, n), 1000);
        }
        Check.due("value(7, 0)", x.value(7, 0), 1000);
        Check.due("value(1, 1)", x.value(1, 1), 1003);
        Check.due("value(7, 3)", x.value(7, 3), 1005);
        Check.due("value(1, 20), the most saved", Check.city("rude 99;").value(1, 20), 1079);
        Check.due("no houses: value(0, 20)", new FireLeave().value(0, 20), 1000);
    }

    @Promise(number = 21, says = "LOSS: BURNT and GIVEN. SHARES for n NIGHTS: VALUE of some HOUSES is how much less LOSS of these NIGHTS is (it may be below 0), were in all of these cooks, as against how it is;")
    static void valueBelowNothing() {
        FireLeave x = Check.city(POLITE_FIVE);
        Check.due("value(1, 1)", x.value(1, 1), 999);
        Check.due("value(31, 20)", x.value(31, 20), 980);
        Check.due("value(16, 20)", x.value(16, 20), 996);
        x.go(3);
        Check.due("value(31, 20), these NIGHTS alone", x.value(31, 20), 980);
        x.offer(0, 5);
        Check.due("value(31, 20), what was given is not asked", x.value(31, 20), 980);
    }

    @Promise(number = 21, says = "for n NIGHTS (0 to 20). BAD.")
    static void valueRefused() {
        FireLeave x = Check.city("deaf 9;polite 9;");
        for (int some : new int[] {-1, 4, 31, 32, LOW, HIGH}) {
            Check.bad("value(" + some + ", 3)", x.value(some, 3));
        }
        for (int n : NO_NIGHTS) {
            Check.bad("value(1, " + n + ")", x.value(1, n));
        }
        Check.bad("no houses: value(1, 3)", new FireLeave().value(1, 3));
        Check.bad("five houses: value(32, 3)", Check.city(POLITE_FIVE).value(32, 3));
    }

    // ---- promise 22

    @Promise(number = 22, says = "SHARE of a HOUSE for n NIGHTS (0 to 20): 0, 1.")
    static void shareOfNoneAndTwenty() {
        FireLeave x = Check.city("rude 99;");
        shared(x, 0, 0, 0, 1);
        shared(x, 0, 1, 0, 1);
        shared(x, 0, 20, 79, 1);
        FireLeave five = Check.city(POLITE_FIVE);
        shared(five, 4, 20, -4, 1);
    }

    @Promise(number = 22, says = "SHARE of one: they come one behind another, in each order alike: the mean of what VALUE grows by it.")
    static void sharesInEachOrder() {
        FireLeave x = Check.city("deaf 30;rude 30;polite 30;rude 30;deaf 30;fire 1 9 2;rain 3;");
        for (int n : new int[] {4, 9, 20}) {
            int[] values = new int[32];
            for (int some = 0; some < 32; some++) {
                values[some] = x.value(some, n) - 1000;
            }
            for (int h = 0; h < 5; h++) {
                long sum = overOrders(values, 0, h);
                Check.due("share(" + h + ", " + n + ") of 120 orders", 120 * x.share(h, n, 0), sum * x.share(h, n, 1));
            }
        }
    }

    /** What VALUE grows by h, summed up over all orders in which five come, some of them being there. */
    private static long overOrders(int[] values, int there, int h) {
        long sum = 0;
        for (int next = 0; next < 5; next++) {
            int then = there | 1 << next;
            if (then != there && next != h) {
                sum += overOrders(values, then, h);
            } else if (then != there) {
                long orders = 1;
                for (int i = 2; i <= 5 - Integer.bitCount(then); i++) {
                    orders *= i;
                }
                sum += orders * (values[then] - values[there]);
            }
        }
        return sum;
    }

    @Promise(number = 22, says = "Fractions are in lowest terms, the denominator above 0 (0 is 0 by 1).")
    static void sharesInLowestTerms() {
        FireLeave halves = Check.city("deaf 3;deaf 6;deaf 4;fire 0 2 0;");
        shared(halves, 0, 3, 1, 2);
        shared(halves, 1, 3, -1, 2);
        FireLeave sixths = Check.city("polite 4;deaf 6;deaf 8;fire 0 1 0;");
        shared(sixths, 0, 4, -5, 6);
        shared(sixths, 1, 4, -1, 3);
        shared(sixths, 2, 4, -5, 6);
        FireLeave nothing = Check.city("polite 9;deaf 9;fire 0 1 0;");
        shared(nothing, 0, 2, 0, 1);
        shared(nothing, 1, 2, 0, 1);
    }

    @Promise(number = 22, says = "0, 1. BAD.")
    static void shareRefused() {
        FireLeave x = Check.city("deaf 9;polite 9;");
        for (int h : new int[] {-1, 2, 5, LOW, HIGH}) {
            Check.bad("share(" + h + ", 3, 0)", x.share(h, 3, 0));
        }
        for (int n : NO_NIGHTS) {
            Check.bad("share(0, " + n + ", 1)", x.share(0, n, 1));
        }
        for (int what : NO_PARTS) {
            Check.bad("share(0, 3, " + what + ")", x.share(0, 3, what));
        }
        Check.bad("no houses: share(0, 3, 0)", new FireLeave().share(0, 3, 0));
    }

    // ---- promise 23

    @Promise(number = 23, says = "In each HOUSE all are out by v out of ten (0 to 10), by itself (it is as deaf then): that nothing is burnt in n NIGHTS (0 to 20): 0, 1.")
    static void luckOfNoneAndAll() {
        FireLeave x = Check.city(POLITE_FIVE);
        lucky(x, 0, 20, 1, 1);
        lucky(x, 10, 0, 1, 1);
        lucky(x, 10, 1, 0, 1);
        lucky(x, 10, 20, 0, 1);
        lucky(x, 1, 1, 9, 10);
        lucky(x, 1, 5, 59049, 100000);
        lucky(x, 9, 5, 1, 100000);
        lucky(x, 1, 20, 59049, 100000);
        FireLeave deaf = Check.city("deaf 9;");
        lucky(deaf, 0, 1, 0, 1);
        FireLeave tired = Check.city("rude 9;rude 9;fire 0 0 0;");
        lucky(tired, 10, 20, 1, 1);
        lucky(tired, 0, 1, 0, 1);
    }

    @Promise(number = 23, says = "Fractions are in lowest terms, the denominator above 0 (0 is 0 by 1).")
    static void luckInLowestTerms() {
        FireLeave x = Check.city("polite 9;");
        long[][] due = {{1, 1}, {9, 10}, {4, 5}, {7, 10}, {3, 5}, {1, 2}, {2, 5}, {3, 10}, {1, 5}, {1, 10}, {0, 1}};
        for (int v = 0; v <= 10; v++) {
            lucky(x, v, 1, due[v][0], due[v][1]);
        }
        lucky(Check.city(POLITE_FIVE), 5, 5, 1, 32);
        lucky(new FireLeave(), 0, 20, 1, 1);
        lucky(new FireLeave(), 10, 20, 1, 1);
    }

    @Promise(number = 23, says = "0, 1. BAD.")
    static void luckRefused() {
        FireLeave x = Check.city("deaf 9;polite 9;");
        for (int v : new int[] {-1, 11, LOW, HIGH}) {
            Check.bad("luck(" + v + ", 3, 0)", x.luck(v, 3, 0));
        }
        for (int n : NO_NIGHTS) {
            Check.bad("luck(5, " + n + ", 1)", x.luck(5, n, 1));
        }
        for (int what : NO_PARTS) {
            Check.bad("luck(5, 3, " + what + ")", x.luck(5, 3, what));
        }
    }

    // ---- promise 24

    @Promise(number = 24, says = "Likewise, the mean of LOSS: 0, 1.")
    static void meanOfNoneAndAll() {
        FireLeave x = Check.city(POLITE_FIVE);
        meant(x, 0, 20, 0, 1);
        meant(x, 10, 0, 0, 1);
        meant(x, 10, 1, 3, 1);
        meant(x, 10, 20, 3, 1);
        meant(x, 1, 1, 3, 10);
        // Out of HOUSE 0 by 1: 3; in it by 9, out of HOUSE 1 by 1: 4.
        meant(x, 1, 2, 33, 50);
        FireLeave cook = Check.city("cook 9;");
        meant(cook, 0, 20, 9, 1);
        meant(cook, 5, 1, 2, 1);
        cook.go(2);
        meant(cook, 0, 20, 7, 1);
    }

    @Promise(number = 24, says = "Fractions are in lowest terms, the denominator above 0 (0 is 0 by 1).")
    static void meanInLowestTerms() {
        FireLeave x = Check.city("polite 9;fire 0 2 0;");
        long[][] due = {{0, 1}, {1, 5}, {2, 5}, {3, 5}, {4, 5}, {1, 1}, {6, 5}, {7, 5}, {8, 5}, {9, 5}, {2, 1}};
        for (int v = 0; v <= 10; v++) {
            meant(x, v, 1, due[v][0], due[v][1]);
        }
        meant(new FireLeave(), 0, 20, 0, 1);
        meant(new FireLeave(), 10, 20, 0, 1);
    }

    @Promise(number = 24, says = "0, 1. BAD.")
    static void meanRefused() {
        FireLeave x = Check.city("deaf 9;polite 9;");
        for (int v : new int[] {-1, 11, LOW, HIGH}) {
            Check.bad("mean(" + v + ", 3, 0)", x.mean(v, 3, 0));
        }
        for (int n : NO_NIGHTS) {
            Check.bad("mean(5, " + n + ", 1)", x.mean(5, n, 1));
        }
        for (int what : NO_PARTS) {
            Check.bad("mean(5, 3, " + what + ")", x.mean(5, 3, what));
        }
    }
}
