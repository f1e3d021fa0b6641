/** Promises 8 to 15: what is changed by hand, offers, nights that go and nights that are told ahead. */
public final class NightTest {
    public static void main(String[] args) {
        alterSetRain();
        offers();
        kindsInANight();
        boundsInANight();
        oneHouseAndNone();
        rainAndTheWeek();
        runsTellNothingElse();
        bareHouses();
        goTooFar();
        Check.finish();
    }

    private static void alterSetRain() {
        FireLeave x = Check.city("deaf 9;rude 8;");
        Check.due("alter(0, 0, 3)", x.alter(0, 0, 3), 2);
        Check.due("house(0, 0)", x.house(0, 0), 3);
        Check.due("alter(1, 1, 99)", x.alter(1, 1, 99), 8);
        Check.due("house(1, 1)", x.house(1, 1), 99);
        Check.due("house(1, 2)", x.house(1, 2), 0);
        Check.due("alter(1, 1, 100)", x.alter(1, 1, 100), FireLeave.BAD);
        Check.due("alter(1, 1, -1)", x.alter(1, 1, -1), FireLeave.BAD);
        Check.due("alter(1, 0, 4)", x.alter(1, 0, 4), FireLeave.BAD);
        Check.due("alter(1, 0, -1)", x.alter(1, 0, -1), FireLeave.BAD);
        Check.due("alter(1, 2, 1)", x.alter(1, 2, 1), FireLeave.BAD);
        Check.due("alter(1, -1, 1)", x.alter(1, -1, 1), FireLeave.BAD);
        Check.due("alter(2, 0, 1)", x.alter(2, 0, 1), FireLeave.BAD);
        Check.due("alter(-1, 0, 1)", x.alter(-1, 0, 1), FireLeave.BAD);
        Check.due("set(1, 1)", x.set(1, 1), 0);
        Check.due("set(1, 2)", x.set(1, 2), FireLeave.BAD);
        Check.due("set(1, -1)", x.set(1, -1), FireLeave.BAD);
        Check.due("set(2, 20)", x.set(2, 20), 3);
        Check.due("set(2, 21)", x.set(2, 21), FireLeave.BAD);
        Check.due("set(2, -1)", x.set(2, -1), FireLeave.BAD);
        Check.due("set(3, 9)", x.set(3, 9), 0);
        Check.due("set(3, 10)", x.set(3, 10), FireLeave.BAD);
        Check.due("set(3, -1)", x.set(3, -1), FireLeave.BAD);
        Check.due("set(0, 1)", x.set(0, 1), FireLeave.BAD);
        Check.due("set(4, 1)", x.set(4, 1), FireLeave.BAD);
        Check.same("all", Check.picture(x), "2 1 20 9 0 0 0 0 108 3 9 0 1 99 0 0 0 0 0 -4 0 0");
        Check.due("new: set(1, 0)", new FireLeave().set(1, 0), FireLeave.BAD);
        Check.due("rain(6, true)", x.rain(6, true), 0);
        Check.due("rain(6, true)", x.rain(6, true), 1);
        Check.due("rain(0, true)", x.rain(0, true), 0);
        Check.due("rule(4)", x.rule(4), 65);
        Check.due("rain(6, false)", x.rain(6, false), 1);
        Check.due("rain(6, false)", x.rain(6, false), 0);
        Check.due("rule(4)", x.rule(4), 1);
        Check.due("rain(7, true)", x.rain(7, true), FireLeave.BAD);
        Check.due("rain(-1, true)", x.rain(-1, true), FireLeave.BAD);
        Check.due("rule(4)", x.rule(4), 1);
    }

    private static void offers() {
        FireLeave x = Check.city("deaf 25;rude 2;fire 0 9 4;");
        Check.due("offer(0, 0)", x.offer(0, 0), FireLeave.BAD);
        Check.due("offer(0, 21)", x.offer(0, 21), FireLeave.BAD);
        Check.due("offer(2, 1)", x.offer(2, 1), FireLeave.BAD);
        Check.due("offer(-1, 1)", x.offer(-1, 1), FireLeave.BAD);
        Check.due("offer(1, 3)", x.offer(1, 3), FireLeave.STATE);
        Check.due("offer(1, 21)", x.offer(1, 21), FireLeave.BAD);
        Check.due("offer(1, 2)", x.offer(1, 2), 7);
        Check.due("offer(0, 20)", x.offer(0, 20), 0);
        Check.same("all", Check.picture(x), "2 0 0 4 0 0 0 22 5 2 5 20 1 0 2 22 0 0 0 -4 0 0");
    }

    private static void kindsInANight() {
        FireLeave polite = Check.city("polite 9;deaf 9;fire 0 5 5;");
        Check.due("polite: go(1)", polite.go(1), 0);
        Check.same("polite", Check.picture(polite), "2 1 6 5 0 1 0 0 18 0 9 0 2 9 0 0 0 0 0 -4 0 0");
        FireLeave rude = Check.city("deaf 9;rude 9;fire 1 5 5;");
        Check.due("rude: go(1)", rude.go(1), 6);
        Check.same("rude", Check.picture(rude), "2 0 5 6 0 1 6 0 12 2 3 6 1 9 0 6 0 0 0 -4 0 0");
        FireLeave deaf = Check.city("deaf 9;rude 9;fire 0 5 5;");
        Check.due("deaf: go(1)", deaf.go(1), 5);
        Check.same("deaf", Check.picture(deaf), "2 1 0 5 0 1 5 0 13 2 4 5 1 9 0 5 0 0 0 -4 0 0");
        FireLeave cook = Check.city("cook 9;rude 9;fire 0 5 5;");
        Check.due("cook: go(1)", cook.go(1), 0);
        Check.same("cook", Check.picture(cook), "2 1 4 4 0 1 0 1 17 3 8 1 1 9 0 1 0 0 0 -4 0 0");
        FireLeave poor = Check.city("cook 0;rude 9;fire 0 5 5;");
        Check.due("poor cook: go(1)", poor.go(1), 0);
        Check.same("poor cook", Check.picture(poor), "2 1 6 5 0 1 0 0 9 3 0 0 1 9 0 0 0 0 0 -4 0 0");
    }

    private static void boundsInANight() {
        FireLeave polite = Check.city("polite 9;fire 0 20 5;");
        polite.go(1);
        Check.due("polite: HUNGER 20 at most", polite.rule(2), 20);
        FireLeave rude = Check.city("rude 9;deaf 50;fire 0 20 9;");
        Check.due("rude: TEMPER 9 at most", rude.go(1), 9);
        Check.due("rude: TEMPER", rude.rule(3), 9);
        FireLeave little = Check.city("deaf 4;rude 3;fire 0 7 3;");
        Check.due("deaf: no more than WORTH", little.go(1), 4);
        Check.due("deaf: HUNGER", little.rule(2), 3);
        Check.due("rude: the next is bare", little.go(1), 0);
        Check.due("rude: TEMPER all the same", little.rule(3), 4);
        FireLeave cook = Check.city("cook 9;fire 0 0 0;");
        cook.go(2);
        Check.due("cook: HUNGER 0 at least", cook.rule(2), 0);
        Check.due("cook: TEMPER 0 at least", cook.rule(3), 0);
        Check.due("cook: given", cook.rule(7), 2);
    }

    private static void oneHouseAndNone() {
        FireLeave alone = Check.city("rude 9;");
        Check.due("rude alone: go(3)", alone.go(3), 6);
        Check.due("rude alone: house(0, 1)", alone.house(0, 1), 3);
        Check.due("rude alone: rule(1)", alone.rule(1), 0);
        FireLeave none = new FireLeave();
        Check.due("no houses: go(30)", none.go(30), 0);
        Check.same("no houses", Check.picture(none), "0 0 3 0 0 30 0 0 0 0 0 0 0 -4 0 0");
        Check.due("no houses: runs(30, 4)", none.runs(30, 4), 0);
        Check.due("no houses: runs(30, 5)", none.runs(30, 5), FireLeave.NONE);
        Check.due("no houses: ahead(0, 1)", none.ahead(0, 1), FireLeave.BAD);
        Check.due("no houses: bare(0)", none.bare(0), FireLeave.BAD);
    }

    private static void rainAndTheWeek() {
        FireLeave x = Check.city("rude 50;deaf 50;rain 1;rain 6;");
        Check.due("go(1)", x.go(1), 1);
        Check.due("go(1) in rain", x.go(1), 0);
        Check.due("rule(1), it waits", x.rule(1), 1);
        Check.due("rule(5)", x.rule(5), 2);
        Check.due("go(4)", x.go(4), 3 + 2 + 0 + 3);
        Check.due("go(1) in rain", x.go(1), 0);
        Check.due("go(1), a new week", x.go(1), 0);
        Check.due("go(1) in rain, a new week", x.go(1), 0);
        Check.due("rule(1)", x.rule(1), 0);
        Check.due("go(0)", x.go(0), 0);
        Check.due("rule(5)", x.rule(5), 9);
    }

    private static void runsTellNothingElse() {
        FireLeave x = Check.city("polite 7;deaf 20;cook 5;fire 0 4 3;rain 3;");
        x.go(2);
        String before = Check.picture(x);
        Check.due("runs(0, 0)", x.runs(0, 0), 0);
        Check.due("runs(0, 5)", x.runs(0, 5), FireLeave.NONE);
        Check.due("runs(3, 0)", x.runs(3, 0), 0);
        Check.due("runs(3, 1)", x.runs(3, 1), 1);
        Check.due("runs(3, 5)", x.runs(3, 5), FireLeave.NONE);
        Check.due("runs(4, 0)", x.runs(4, 0), 1);
        Check.due("runs(4, 5)", x.runs(4, 5), 4);
        Check.due("runs(30, 5)", x.runs(30, 5), 4);
        Check.due("runs(4, 2)", x.runs(4, 2), 0);
        Check.due("runs(4, 3)", x.runs(4, 3), 2);
        Check.due("runs(4, 4)", x.runs(4, 4), 2);
        Check.due("runs(31, 0)", x.runs(31, 0), FireLeave.BAD);
        Check.due("runs(-1, 0)", x.runs(-1, 0), FireLeave.BAD);
        Check.due("runs(1, 6)", x.runs(1, 6), FireLeave.BAD);
        Check.due("runs(1, -1)", x.runs(1, -1), FireLeave.BAD);
        Check.due("ahead(2, 0)", x.ahead(2, 0), 5);
        Check.due("ahead(2, 1)", x.ahead(2, 1), 4);
        Check.due("ahead(1, 4)", x.ahead(1, 4), 14);
        Check.due("ahead(1, 31)", x.ahead(1, 31), FireLeave.BAD);
        Check.due("ahead(1, -1)", x.ahead(1, -1), FireLeave.BAD);
        Check.due("ahead(3, 1)", x.ahead(3, 1), FireLeave.BAD);
        Check.due("ahead(-1, 1)", x.ahead(-1, 1), FireLeave.BAD);
        Check.due("bare(1), five times 1 and five times 2", x.bare(1), 35);
        Check.same("nothing is changed", Check.picture(x), before);
    }

    private static void bareHouses() {
        FireLeave x = Check.city("cook 60;fire 0 3 0;");
        Check.due("bare(0), 60 nights", x.bare(0), 60);
        x.alter(0, 1, 61);
        Check.due("bare(0), 61 nights", x.bare(0), FireLeave.NONE);
        x.alter(0, 1, 0);
        Check.due("bare(0), now", x.bare(0), 0);
        Check.due("bare(1)", x.bare(1), FireLeave.BAD);
        Check.due("bare(-1)", x.bare(-1), FireLeave.BAD);
        FireLeave polite = Check.city("polite 1;");
        Check.due("bare(0), polite", polite.bare(0), FireLeave.NONE);
    }

    private static void goTooFar() {
        FireLeave x = Check.city("cook 9;");
        Check.due("go(31)", x.go(31), FireLeave.BAD);
        Check.due("go(-1)", x.go(-1), FireLeave.BAD);
        for (int i = 0; i < 33; i++) {
            Check.due("go(30)", x.go(30), 0);
        }
        Check.due("rule(5)", x.rule(5), 990);
        Check.due("go(10)", x.go(10), FireLeave.FULL);
        Check.due("go(31)", x.go(31), FireLeave.BAD);
        Check.due("rule(5)", x.rule(5), 990);
        Check.due("go(9)", x.go(9), 0);
        Check.due("rule(5)", x.rule(5), 999);
        Check.due("go(0)", x.go(0), 0);
        Check.due("go(1)", x.go(1), FireLeave.FULL);
        Check.due("runs(30, 2)", x.runs(30, 2), 20);
    }
}
