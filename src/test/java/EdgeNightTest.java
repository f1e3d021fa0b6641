/** A test for each sentence on promises 8 to 15 (and their terms) that names a boundary. */
public final class EdgeNightTest {
    private static final int BAD = FireLeave.BAD, STATE = FireLeave.STATE, FULL = FireLeave.FULL, NONE = FireLeave.NONE;
    private static final int LOW = Integer.MIN_VALUE, HIGH = Integer.MAX_VALUE;

    public static void main(String[] args) throws IllegalAccessException {
        Sentences.run(EdgeNightTest.class);
    }

    /** A city that has come to a given NIGHT, RAIN and all else as told. */
    private static FireLeave atNight(String text, int night) {
        FireLeave x = Check.city(text);
        for (int gone = 0; gone < night; gone += 30) {
            x.go(Math.min(30, night - gone));
        }
        Check.due("rule(5)", x.rule(5), night);
        return x;
    }

    /** One NIGHT of one city, and what HUNGER, TEMPER, AT, BURNT, GIVEN are then. */
    private static FireLeave night(String text, int... then) {
        FireLeave x = Check.city(text);
        x.go(1);
        int[] rules = {2, 3, 1, 6, 7};
        String[] names = {"HUNGER", "TEMPER", "AT", "BURNT", "GIVEN"};
        for (int i = 0; i < then.length; i++) {
            Check.due(names[i] + " behind a night of '" + text + "'", x.rule(rules[i]), then[i]);
        }
        Check.due("NIGHT behind a night of '" + text + "'", x.rule(5), 1);
        return x;
    }

    // ---- promise 8

    @Promise(number = 8, says = "KIND, WORTH (what 0, 1) of a HOUSE becomes v: what it was.")
    static void leastAndMostOfAHouse() {
        FireLeave x = Check.city("deaf 9;rude 8;cook 7;deaf 6;polite 5;");
        for (int h : new int[] {0, 4}) {
            int kind = x.house(h, 0);
            int worth = x.house(h, 1);
            for (int v : new int[] {3, 0, 2, 1}) {
                Check.due("alter(" + h + ", 0, " + v + ")", x.alter(h, 0, v), kind);
                Check.due("house(" + h + ", 0)", x.house(h, 0), v);
                kind = v;
            }
            for (int v : new int[] {99, 0}) {
                Check.due("alter(" + h + ", 1, " + v + ")", x.alter(h, 1, v), worth);
                Check.due("house(" + h + ", 1)", x.house(h, 1), v);
                worth = v;
            }
            Check.due("house(" + h + ", 2), LOST is as it was", x.house(h, 2), 0);
        }
        Check.due("rule(8)", x.rule(8), 8 + 7 + 6);
    }

    @Promise(number = 8, says = "In each somebody of a KIND (0 polite, 1 rude, 2 deaf, 3 cook) answers;")
    static void everyKindAnswers() {
        // HUNGER, TEMPER, BURNT, GIVEN behind a night, by KINDS.
        int[][] then = {{6, 4, 0, 0}, {5, 5, 5, 0}, {0, 4, 5, 0}, {4, 3, 0, 1}};
        String[] names = {"polite", "rude", "deaf", "cook"};
        for (int kind = 0; kind < 4; kind++) {
            FireLeave told = Check.city(names[kind] + " 9;polite 9;fire 0 5 4;");
            FireLeave altered = Check.city(names[3 - kind] + " 9;polite 9;fire 0 5 4;");
            Check.due("house(0, 0), " + names[kind], told.house(0, 0), kind);
            Check.due("alter(0, 0, " + kind + ")", altered.alter(0, 0, kind), 3 - kind);
            told.go(1);
            altered.go(1);
            int[] rules = {2, 3, 6, 7};
            for (int i = 0; i < 4; i++) {
                Check.due(names[kind] + ": rule(" + rules[i] + ")", told.rule(rules[i]), then[kind][i]);
                Check.due("altered to " + kind + ": rule(" + rules[i] + ")", altered.rule(rules[i]), then[kind][i]);
            }
        }
    }

    @Promise(number = 8, says = "what it was. BAD.")
    static void alterRefused() {
        FireLeave x = Check.city("deaf 9;rude 8;");
        String before = Check.picture(x);
        int[][] wrong = {{0, 0, -1}, {0, 0, 4}, {0, 0, HIGH}, {0, 1, -1}, {0, 1, 100}, {0, 1, LOW}, {0, 2, 1}, {0, -1, 1},
            {-1, 0, 1}, {2, 0, 1}, {5, 1, 1}, {LOW, 0, 1}, {HIGH, 1, 1}};
        for (int[] w : wrong) {
            Check.bad("alter(" + w[0] + ", " + w[1] + ", " + w[2] + ")", x.alter(w[0], w[1], w[2]));
        }
        Check.same("nothing is changed", Check.picture(x), before);
    }

    // ---- promise 9

    @Promise(number = 9, says = "AT (what 1, a HOUSE), HUNGER (2), TEMPER (3) becomes v: what it was.")
    static void leastAndMostOfFire() {
        FireLeave x = Check.city("deaf 9;rude 8;cook 7;fire 1 5 4;");
        Check.due("set(1, 2), the last", x.set(1, 2), 1);
        Check.due("set(1, 0)", x.set(1, 0), 2);
        Check.due("rule(1)", x.rule(1), 0);
        Check.due("set(2, 20)", x.set(2, 20), 5);
        Check.due("rule(2)", x.rule(2), 20);
        Check.due("set(2, 0)", x.set(2, 0), 20);
        Check.due("rule(2)", x.rule(2), 0);
        Check.due("set(3, 9)", x.set(3, 9), 4);
        Check.due("rule(3)", x.rule(3), 9);
        Check.due("set(3, 0)", x.set(3, 0), 9);
        Check.due("rule(3)", x.rule(3), 0);
    }

    @Promise(number = 9, says = "TEMPER (3) becomes v: what it was. BAD.")
    static void setRefused() {
        FireLeave x = Check.city("deaf 9;rude 8;fire 1 5 4;");
        String before = Check.picture(x);
        int[][] wrong = {{1, -1}, {1, 2}, {1, 4}, {1, LOW}, {1, HIGH}, {2, -1}, {2, 21}, {2, LOW}, {2, HIGH}, {3, -1}, {3, 10},
            {3, LOW}, {3, HIGH}, {0, 0}, {0, 1}, {4, 0}, {5, 0}, {-1, 0}, {LOW, 0}, {HIGH, 0}};
        for (int[] w : wrong) {
            Check.bad("set(" + w[0] + ", " + w[1] + ")", x.set(w[0], w[1]));
        }
        Check.same("nothing is changed", Check.picture(x), before);
    }

    @Promise(number = 9, says = "AT (what 1, a HOUSE)")
    static void setWithoutHouses() {
        FireLeave x = new FireLeave();
        Check.bad("set(1, 0), there is none", x.set(1, 0));
        Check.due("set(2, 20)", x.set(2, 20), 3);
        Check.due("set(3, 9)", x.set(3, 9), 0);
    }

    // ---- promise 10

    @Promise(number = 10, says = "RAIN falls in a NIGHT of seven (0 to 6), or not: whether it did.")
    static void everyNightOfSeven() {
        FireLeave x = new FireLeave();
        for (int d = 0; d < 7; d++) {
            Check.due("rain(" + d + ", false), not ahead", x.rain(d, false), 0);
            Check.due("rain(" + d + ", true)", x.rain(d, true), 0);
            Check.due("rule(4)", x.rule(4), (2 << d) - 1);
            Check.due("rain(" + d + ", true), already", x.rain(d, true), 1);
            Check.due("rule(4)", x.rule(4), (2 << d) - 1);
        }
        for (int d = 0; d < 7; d++) {
            Check.due("rain(" + d + ", false)", x.rain(d, false), 1);
            Check.due("rule(4)", x.rule(4), 127 - ((2 << d) - 1));
            Check.due("rain(" + d + ", false), already", x.rain(d, false), 0);
        }
    }

    @Promise(number = 10, says = "whether it did. BAD.")
    static void noSuchNightOfSeven() {
        FireLeave x = Check.city("deaf 9;rain 0;rain 3;");
        for (int d : new int[] {-1, 7, 8, 32, 35, -32, LOW, HIGH}) {
            Check.bad("rain(" + d + ", true)", x.rain(d, true));
            Check.bad("rain(" + d + ", false)", x.rain(d, false));
        }
        Check.due("rule(4)", x.rule(4), 9);
    }

    // ---- promise 11

    @Promise(number = 11, says = "AN OFFER of a HOUSE, n (1 to 20): HUNGER then.")
    static void leastAndMostOffered() {
        FireLeave x = Check.city("deaf 99;rude 50;fire 0 20 5;");
        Check.due("offer(0, 1)", x.offer(0, 1), 19);
        Check.due("offer(1, 18)", x.offer(1, 18), 1);
        x.set(2, 20);
        Check.due("offer(1, 20)", x.offer(1, 20), 0);
        Check.same("all", Check.picture(x), "2 0 0 5 0 0 0 39 110 2 98 1 1 12 38 39 0 0 0 -4 0 0");
    }

    @Promise(number = 11, says = "AN OFFER of a HOUSE: so much is given, WORTH less, LOST more by it, HUNGER less (0 at least).")
    static void hungerIsNeverBelowNothing() {
        FireLeave x = Check.city("deaf 99;fire 0 5 0;");
        Check.due("offer(0, 4)", x.offer(0, 4), 1);
        Check.due("offer(0, 1)", x.offer(0, 1), 0);
        Check.due("offer(0, 1), none is left", x.offer(0, 1), 0);
        Check.due("offer(0, 20)", x.offer(0, 20), 0);
        Check.due("rule(7)", x.rule(7), 26);
        Check.due("house(0, 1)", x.house(0, 1), 73);
        Check.due("house(0, 2)", x.house(0, 2), 26);
        Check.due("rule(5), no NIGHT goes", x.rule(5), 0);
    }

    @Promise(number = 11, says = "BAD; STATE: WORTH is less.")
    static void worthIsLess() {
        FireLeave x = Check.city("deaf 5;rude 0;");
        Check.due("offer(0, 6)", x.offer(0, 6), STATE);
        Check.due("offer(0, 20)", x.offer(0, 20), STATE);
        Check.due("offer(1, 1)", x.offer(1, 1), STATE);
        Check.due("house(0, 1), nothing is changed", x.house(0, 1), 5);
        Check.due("rule(2)", x.rule(2), 3);
        Check.due("offer(0, 5), all", x.offer(0, 5), 0);
        Check.due("house(0, 1)", x.house(0, 1), 0);
        Check.due("offer(0, 1)", x.offer(0, 1), STATE);
    }

    @Promise(number = 11, says = "BAD; STATE")
    static void offerRefused() {
        FireLeave x = Check.city("deaf 99;rude 0;");
        String before = Check.picture(x);
        int[][] wrong = {{0, 0}, {0, 21}, {0, -1}, {0, LOW}, {0, HIGH}, {-1, 1}, {2, 1}, {5, 1}, {LOW, 1}, {HIGH, 1}};
        for (int[] w : wrong) {
            Check.bad("offer(" + w[0] + ", " + w[1] + ")", x.offer(w[0], w[1]));
        }
        Check.bad("offer(1, 21), the first that fits", x.offer(1, 21));
        Check.same("nothing is changed", Check.picture(x), before);
    }

    // ---- promise 12: a night

    @Promise(number = 12, says = "A NIGHT: has NIGHT modulo 7 RAIN, nothing is asked.")
    static void rainyNights() {
        night("deaf 9;polite 9;fire 0 5 3;rain 0;", 5, 3, 0, 0, 0);
        for (int d = 0; d < 7; d++) {
            FireLeave x = Check.city("polite 9;polite 9;fire 0 0 0;rain " + d + ";");
            for (int i = 0; i < 16; i++) {
                int hunger = x.rule(2);
                int at = x.rule(1);
                boolean rains = i % 7 == d;
                x.go(1);
                Check.due("HUNGER behind night " + i + ", rain " + d, x.rule(2), rains ? hunger : hunger + 1);
                Check.due("AT behind night " + i + ", rain " + d, x.rule(1), rains ? at : 1 - at);
            }
        }
    }

    @Promise(number = 12, says = "Else FIRE asks AT its HOUSE, and is AT the next one behind that")
    static void ringOfEverySize() {
        String text = "";
        for (int houses = 1; houses <= 5; houses++) {
            text += "polite 9;";
            FireLeave x = Check.city(text);
            for (int i = 1; i <= 11; i++) {
                x.go(1);
                Check.due("AT of " + houses + " houses behind " + i, x.rule(1), i % houses);
            }
        }
    }

    @Promise(number = 12, says = "behind the last one comes HOUSE 0.")
    static void rudeBehindTheLastOne() {
        FireLeave x = night("polite 50;deaf 50;rude 50;fire 2 0 4;", 0, 5, 0, 5, 0);
        Check.due("house(0, 1)", x.house(0, 1), 45);
        Check.due("house(1, 1)", x.house(1, 1), 50);
        Check.due("house(2, 1)", x.house(2, 1), 50);
        FireLeave alone = night("rude 50;fire 0 0 4;", 0, 5, 0, 5, 0);
        Check.due("alone: house(0, 1), next door is his own", alone.house(0, 1), 45);
        FireLeave five = night("deaf 9;deaf 9;deaf 9;deaf 9;rude 9;fire 4 0 0;", 0, 1, 0, 1, 0);
        Check.due("five: house(0, 2)", five.house(0, 2), 1);
    }

    @Promise(number = 12, says = "polite: nothing is had, HUNGER is 1 more (20 at most).")
    static void politeNights() {
        night("polite 9;deaf 9;fire 0 0 0;", 1, 0, 1, 0, 0);
        night("polite 9;deaf 9;fire 0 19 9;", 20, 9, 1, 0, 0);
        night("polite 9;deaf 9;fire 0 20 9;", 20, 9, 1, 0, 0);
        night("polite 0;deaf 9;fire 0 5 5;", 6, 5, 1, 0, 0);
    }

    @Promise(number = 12, says = "Rude: TEMPER is 1 more (9 at most); of the next HOUSE so much is burnt as TEMPER is then.")
    static void rudeNights() {
        night("rude 9;deaf 50;fire 0 7 0;", 7, 1, 1, 1, 0);
        night("rude 9;deaf 50;fire 0 7 8;", 7, 9, 1, 9, 0);
        FireLeave x = night("rude 9;deaf 50;fire 0 20 9;", 20, 9, 1, 9, 0);
        Check.due("house(0, 1), it is not his", x.house(0, 1), 9);
        Check.due("house(1, 1)", x.house(1, 1), 41);
        night("rude 0;deaf 50;fire 0 7 1;", 7, 2, 1, 2, 0);
    }

    @Promise(number = 12, says = "Deaf: so much is burnt as HUNGER is, HUNGER is less by what is burnt.")
    static void deafNights() {
        night("deaf 9;deaf 9;fire 0 0 5;", 0, 5, 1, 0, 0);
        night("deaf 9;deaf 9;fire 0 8 5;", 0, 5, 1, 8, 0);
        night("deaf 9;deaf 9;fire 0 9 5;", 0, 5, 1, 9, 0);
        night("deaf 9;deaf 9;fire 0 10 5;", 1, 5, 1, 9, 0);
        night("deaf 99;deaf 9;fire 0 20 9;", 0, 9, 1, 20, 0);
        night("deaf 0;deaf 9;fire 0 20 0;", 20, 0, 1, 0, 0);
    }

    @Promise(number = 12, says = "Cook: 1 is given, HUNGER is 1 less, TEMPER 1 less (0 at least each);")
    static void cookNights() {
        night("cook 9;deaf 9;fire 0 20 9;", 19, 8, 1, 0, 1);
        night("cook 9;deaf 9;fire 0 1 1;", 0, 0, 1, 0, 1);
        night("cook 9;deaf 9;fire 0 0 0;", 0, 0, 1, 0, 1);
        night("cook 9;deaf 9;fire 0 0 5;", 0, 4, 1, 0, 1);
        night("cook 9;deaf 9;fire 0 5 0;", 4, 0, 1, 0, 1);
    }

    @Promise(number = 12, says = "has he WORTH 0, as polite.")
    static void bareCooks() {
        FireLeave x = night("cook 1;fire 0 5 5;", 4, 4, 0, 0, 1);
        Check.due("house(0, 1)", x.house(0, 1), 0);
        x.go(1);
        Check.due("HUNGER, he has nothing", x.rule(2), 5);
        Check.due("TEMPER, he has nothing", x.rule(3), 4);
        Check.due("GIVEN, he has nothing", x.rule(7), 1);
        Check.due("house(0, 1)", x.house(0, 1), 0);
        night("cook 0;fire 0 20 5;", 20, 5, 0, 0, 0);
    }

    @Promise(number = 12, says = "No more is burnt of a HOUSE than WORTH is; WORTH is less, LOST more by what is burnt, given.")
    static void noMoreThanWorth() {
        for (int worth = 3; worth <= 5; worth++) {
            FireLeave x = night("rude 9;deaf " + worth + ";fire 0 0 3;", 0, 4, 1, Math.min(worth, 4), 0);
            Check.due("rude: WORTH " + worth + " then", x.house(1, 1), Math.max(0, worth - 4));
            Check.due("rude: LOST of " + worth, x.house(1, 2), Math.min(worth, 4));
            x = night("deaf " + worth + ";rude 9;fire 0 4 0;", Math.max(0, 4 - worth), 0, 1, Math.min(worth, 4), 0);
            Check.due("deaf: WORTH " + worth + " then", x.house(0, 1), Math.max(0, worth - 4));
            Check.due("deaf: LOST of " + worth, x.house(0, 2), Math.min(worth, 4));
        }
        FireLeave bare = night("rude 9;deaf 0;fire 0 0 3;", 0, 4, 1, 0, 0);
        Check.due("bare: LOST", bare.house(1, 2), 0);
        FireLeave cook = night("cook 9;", 2, 0, 0, 0, 1);
        Check.due("cook: WORTH", cook.house(0, 1), 8);
        Check.due("cook: LOST", cook.house(0, 2), 1);
    }

    @Promise(number = 12, says = "Then NIGHT is 1 more. Where there are no HOUSES NIGHTS but go.")
    static void nightsButGo() {
        FireLeave x = new FireLeave();
        x.rain(1, true);
        Check.due("go(30)", x.go(30), 0);
        Check.same("all", Check.picture(x), "0 0 3 0 2 30 0 0 0 0 0 0 0 -4 0 0");
        FireLeave wet = Check.city("deaf 9;rain 0;");
        wet.go(1);
        Check.due("rule(5), in rain too", wet.rule(5), 1);
    }

    // ---- promise 12: go

    @Promise(number = 12, says = "n NIGHTS go (0 to 30): how much is burnt in them.")
    static void noneAndThirtyNights() {
        FireLeave x = Check.city("rude 99;polite 99;");
        String before = Check.picture(x);
        Check.due("go(0)", x.go(0), 0);
        Check.same("go(0) changes nothing", Check.picture(x), before);
        Check.due("go(2)", x.go(2), 1);
        Check.due("go(2), these alone", x.go(2), 2);
        Check.due("go(30), all that is left", x.go(30), 96);
        Check.due("rule(5)", x.rule(5), 34);
    }

    @Promise(number = 12, says = "how much is burnt in them. BAD;")
    static void goRefused() {
        FireLeave x = Check.city("rude 99;polite 99;");
        String before = Check.picture(x);
        for (int n : new int[] {-1, 31, LOW, HIGH}) {
            Check.bad("go(" + n + ")", x.go(n));
        }
        Check.same("nothing is changed", Check.picture(x), before);
    }

    @Promise(number = 12, says = "FULL: NIGHT would be 1000 or more.")
    static void thousandNights() {
        FireLeave x = atNight("polite 9;", 970);
        Check.due("go(30)", x.go(30), FULL);
        Check.due("rule(5)", x.rule(5), 970);
        Check.due("go(29)", x.go(29), 0);
        Check.due("rule(5)", x.rule(5), 999);
        Check.due("go(1)", x.go(1), FULL);
        Check.due("go(30)", x.go(30), FULL);
        Check.bad("go(31), the first that fits", x.go(31));
        Check.bad("go(-1)", x.go(-1));
        Check.due("go(0)", x.go(0), 0);
        Check.due("rule(5)", x.rule(5), 999);
    }

    // ---- promise 13

    @Promise(number = 13, says = "In n NIGHTS (0 to 30): how much is burnt (what 0), given (1); HUNGER (2), TEMPER (3), AT (4) behind them;")
    static void runsOfNoneAndThirty() {
        FireLeave x = Check.city("rude 50;cook 60;polite 50;fire 1 5 4;");
        x.go(2);
        String before = Check.picture(x);
        int[] none = {0, 0, 5, 3, 0, NONE};
        for (int what = 0; what <= 5; what++) {
            Check.due("runs(0, " + what + ")", x.runs(0, what), none[what]);
        }
        // Each round of three is: TEMPER 4, 4 burnt; 1 given, TEMPER 3, HUNGER 1 less; HUNGER 1 more.
        int[] thirty = {40, 10, 5, 3, 0, 1};
        for (int what = 0; what <= 5; what++) {
            Check.due("runs(30, " + what + ")", x.runs(30, what), thirty[what]);
        }
        int[] two = {4, 1, 4, 3, 2, 1};
        for (int what = 0; what <= 5; what++) {
            Check.due("runs(2, " + what + ")", x.runs(2, what), two[what]);
        }
        Check.same("nothing is changed", Check.picture(x), before);
    }

    @Promise(number = 13, says = "behind how many of them something was first burnt (5; NONE).")
    static void firstBurnt() {
        FireLeave x = Check.city("deaf 9;polite 9;polite 9;deaf 9;fire 0 0 0;rain 2;");
        Check.due("runs(4, 5), a night of 0 is none", x.runs(4, 5), NONE);
        Check.due("runs(5, 5)", x.runs(5, 5), 5);
        Check.due("runs(30, 5), the first", x.runs(30, 5), 5);
        x.go(5);
        Check.due("runs(3, 5), what was burnt before is not asked", x.runs(3, 5), NONE);
        FireLeave now = Check.city("deaf 9;");
        Check.due("runs(0, 5)", now.runs(0, 5), NONE);
        Check.due("runs(1, 5)", now.runs(1, 5), 1);
        FireLeave little = Check.city("rude 9;rude 9;");
        Check.due("runs(30, 5), 1 is something", little.runs(30, 5), 1);
        FireLeave last = Check.city("polite 9;fire 0 0 0;");
        Check.due("runs(30, 5), none", last.runs(30, 5), NONE);
        FireLeave cook = Check.city("cook 9;");
        Check.due("runs(30, 5), what is given is not burnt", cook.runs(30, 5), NONE);
    }

    @Promise(number = 13, says = "(5; NONE). BAD.")
    static void runsRefused() {
        FireLeave x = Check.city("deaf 9;");
        for (int n : new int[] {-1, 31, LOW, HIGH}) {
            Check.bad("runs(" + n + ", 0)", x.runs(n, 0));
            Check.bad("runs(" + n + ", 5)", x.runs(n, 5));
        }
        for (int what : new int[] {-1, 6, LOW, HIGH}) {
            Check.bad("runs(3, " + what + ")", x.runs(3, what));
        }
    }

    @Promise(number = 13, says = "In n NIGHTS (0 to 30)")
    static void runsBehindTheLastNight() {
        FireLeave x = atNight("polite 9;rain 0;", 999);
        Check.due("runs(30, 2)", x.runs(30, 2), 20);
        x.set(2, 0);
        // NIGHT 999 is 5 modulo 7, so the third of them has RAIN.
        Check.due("runs(2, 2)", x.runs(2, 2), 2);
        Check.due("runs(3, 2)", x.runs(3, 2), 2);
        Check.due("runs(4, 2)", x.runs(4, 2), 3);
    }

    // ---- promise 14

    @Promise(number = 14, says = "WORTH of a HOUSE behind n NIGHTS (0 to 30).")
    static void aheadNoneAndThirty() {
        FireLeave x = Check.city("cook 40;polite 9;cook 3;deaf 9;cook 50;fire 4 0 0;");
        int[] none = {40, 9, 3, 9, 50};
        // The fifth gives in NIGHTS 0, 5 .. 25, the first in 1 .. 26, the third in 3, 8, 13; deaf burns 0, as
        // polite makes HUNGER 1, and the third takes it away thrice; then bare, it makes HUNGER 2.
        for (int h = 0; h < 5; h++) {
            Check.due("ahead(" + h + ", 0)", x.ahead(h, 0), none[h]);
        }
        Check.due("ahead(4, 1)", x.ahead(4, 1), 49);
        Check.due("ahead(4, 30)", x.ahead(4, 30), 44);
        Check.due("ahead(0, 30)", x.ahead(0, 30), 34);
        Check.due("ahead(1, 30)", x.ahead(1, 30), 9);
        Check.due("ahead(2, 30)", x.ahead(2, 30), 0);
        Check.due("ahead(3, 19)", x.ahead(3, 19), 9);
        Check.due("ahead(3, 20)", x.ahead(3, 20), 7);
        Check.due("ahead(3, 30)", x.ahead(3, 30), 3);
        Check.due("house(4, 1), as it was", x.house(4, 1), 50);
    }

    @Promise(number = 14, says = "behind n NIGHTS (0 to 30). BAD.")
    static void aheadRefused() {
        FireLeave x = Check.city("cook 40;polite 9;");
        for (int n : new int[] {-1, 31, LOW, HIGH}) {
            Check.bad("ahead(0, " + n + ")", x.ahead(0, n));
        }
        for (int h : new int[] {-1, 2, 5, LOW, HIGH}) {
            Check.bad("ahead(" + h + ", 0)", x.ahead(h, 0));
        }
    }

    // ---- promise 15

    @Promise(number = 15, says = "Behind how many NIGHTS (0 to 60) WORTH of a HOUSE is first 0.")
    static void bareNowAndBehindSixty() {
        FireLeave x = Check.city("cook 60;");
        Check.due("bare(0), 60", x.bare(0), 60);
        x.alter(0, 1, 59);
        Check.due("bare(0), 59", x.bare(0), 59);
        x.alter(0, 1, 1);
        Check.due("bare(0), 1", x.bare(0), 1);
        x.alter(0, 1, 0);
        Check.due("bare(0), now", x.bare(0), 0);
        FireLeave wet = Check.city("deaf 3;polite 9;rain 0;rain 1;");
        Check.due("bare(0), behind rain", wet.bare(0), 3);
        FireLeave rude = Check.city("rude 9;deaf 1;");
        Check.due("bare(1), by the next door", rude.bare(1), 1);
        Check.due("house(1, 1), as it was", rude.house(1, 1), 1);
    }

    @Promise(number = 15, says = "BAD; NONE: behind none.")
    static void neverBare() {
        FireLeave x = Check.city("cook 61;");
        Check.due("bare(0), 61", x.bare(0), NONE);
        FireLeave polite = Check.city("polite 1;deaf 1;fire 0 0 0;");
        Check.due("bare(0), polite", polite.bare(0), NONE);
        Check.due("bare(1)", polite.bare(1), 2);
        for (int h : new int[] {-1, 2, 5, LOW, HIGH}) {
            Check.bad("bare(" + h + ")", polite.bare(h));
        }
    }
}
