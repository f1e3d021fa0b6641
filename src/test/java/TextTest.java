/** Promises 1 to 7: a new object, the tape, the text and its faults, what is told. */
public final class TextTest {
    public static void main(String[] args) {
        newObject();
        feedAndEnd();
        taken();
        faultsOfTokens();
        faultsOfPlaces();
        faultsOfNumbers();
        faultsOfTooMany();
        faultsBehindAll();
        refusedChangesNothing();
        takenPutsAllAnew();
        wrongNumbers();
        Check.finish();
    }

    private static void newObject() {
        FireLeave x = new FireLeave();
        int[] rules = {0, 0, 3, 0, 0, 0, 0, 0, 0};
        for (int what = 0; what < rules.length; what++) {
            Check.due("new: rule(" + what + ")", x.rule(what), rules[what]);
        }
        int[] counts = {0, 0, 0, 0, FireLeave.NONE};
        for (int what = 0; what < counts.length; what++) {
            Check.due("new: count(" + what + ")", x.count(what), counts[what]);
        }
        Check.due("new: fault()", x.fault(), 0);
        Check.due("new: torn()", x.torn(), 0);
        Check.due("new: house(0, 0)", x.house(0, 0), FireLeave.BAD);
        for (int k = 0; k < 4; k++) {
            Check.due("new: lay(" + k + ", 0, 1)", x.lay(k, 0, 1), -11);
        }
        for (int k = 0; k < 2; k++) {
            Check.due("new: back(" + k + ")", x.back(k), FireLeave.STATE);
        }
    }

    private static void feedAndEnd() {
        FireLeave x = new FireLeave();
        Check.due("feed(-1)", x.feed(-1), FireLeave.BAD);
        Check.due("feed(128)", x.feed(128), FireLeave.BAD);
        Check.due("feed(0)", x.feed(0), 1);
        Check.due("feed(127)", x.feed(127), 2);
        Check.due("end(3)", x.end(3), FireLeave.BAD);
        Check.due("end(-1)", x.end(-1), FireLeave.BAD);
        Check.due("end(2)", x.end(2), 2);
        Check.due("end(1)", x.end(1), 2);
        Check.due("count(3)", x.count(3), 1);
        Check.due("end(0)", x.end(0), 1);
        Check.due("end(0) again", x.end(0), 0);
        for (int i = 1; i <= 160; i++) {
            Check.due("feed, " + i, x.feed(' '), i);
        }
        Check.due("feed, 161", x.feed(' '), FireLeave.FULL);
        Check.due("feed, a bad one, 161", x.feed(128), FireLeave.BAD);
        Check.due("count(3)", x.count(3), 160);
        Check.due("text() of blanks", x.text(), 0);
        Check.due("count(3) then", x.count(3), 0);
        Check.feed(x, "polite 5;rude 6;xx");
        Check.due("end(9)", x.end(9), 18);
        Check.due("text() of what is kept", x.text(), 1);
        Check.due("rule(0)", x.rule(0), 1);
    }

    private static void taken() {
        FireLeave x = new FireLeave();
        Check.due("text()", Check.tell(x, "  polite9 ;rude 08;deaf 0;cook99;deaf 7;rain 6;rain 0;fire 4 20 9; offer 3 20 ;"), 9);
        int[] rules = {5, 4, 0, 9, 65, 0, 0, 20, 103};
        for (int what = 0; what < rules.length; what++) {
            Check.due("rule(" + what + ")", x.rule(what), rules[what]);
        }
        int[][] houses = {{0, 9, 0}, {1, 8, 0}, {2, 0, 0}, {3, 79, 20}, {2, 7, 0}};
        for (int h = 0; h < houses.length; h++) {
            for (int what = 0; what < 3; what++) {
                Check.due("house(" + h + ", " + what + ")", x.house(h, what), houses[h][what]);
            }
        }
        Check.due("fault()", x.fault(), 0);
        Check.due("text() of four offers", Check.tell(x, "offer 0 1;offer 0 2;offer 1 3;deaf 5;offer 0 2;cook 3;"), 6);
        Check.due("house(0, 1)", x.house(0, 1), 0);
        Check.due("house(1, 2)", x.house(1, 2), 3);
        Check.due("rule(2), 0 at least", x.rule(2), 0);
        Check.due("rule(7)", x.rule(7), 8);
        Check.due("text() of nothing", x.text(), 0);
        Check.due("rule(0) of nothing", x.rule(0), 0);
        Check.due("rule(2) of nothing", x.rule(2), 3);
        Check.due("text() of rain alone", Check.tell(x, "rain 3;"), 1);
        Check.due("rule(4)", x.rule(4), 8);
    }

    private static void faultsOfTokens() {
        Check.faulty("deaf 100;", 1, 5);
        Check.faulty("123", 1, 0);
        Check.faulty("deaf 000", 1, 5);
        Check.faulty("Deaf 1;", 1, 0);
        Check.faulty("deaf\t1;", 1, 4);
        Check.faulty("deaf -1;", 1, 5);
        Check.faulty("deaf 1:", 1, 6);
        Check.faulty("deaf 1;  `", 1, 9);
        Check.faulty("deaf 1;{", 1, 7);
        Check.faulty("deaf 1/", 1, 6);
        Check.faulty("fire 0 111 1;", 1, 7);
        Check.faulty("rain \u0000;", 1, 5);
    }

    private static void faultsOfPlaces() {
        Check.faulty("deaf;", 2, 4);
        Check.faulty("deaf", 2, 4);
        Check.faulty("deaf  ", 2, 6);
        Check.faulty("deaf 1", 2, 6);
        Check.faulty("deaf 1 ", 2, 7);
        Check.faulty("deaf 1 2;", 2, 7);
        Check.faulty("deaf deaf 1;", 2, 5);
        Check.faulty(" deafe 1;", 2, 1);
        Check.faulty("dea 1;", 2, 0);
        Check.faulty("deaf1a;", 2, 5);
        Check.faulty(";", 2, 0);
        Check.faulty("7;", 2, 0);
        Check.faulty("deaf 1;;", 2, 7);
        Check.faulty("fire 0 1;", 2, 8);
        Check.faulty("fire 0 1 1 1;", 2, 11);
        Check.faulty("offer 0;", 2, 7);
        Check.faulty("rain;", 2, 4);
        Check.faulty("rain 1 1;", 2, 7);
        Check.faulty("x" + "y".repeat(159), 2, 0);
    }

    private static void faultsOfNumbers() {
        Check.faulty("fire 5 1 1;", 3, 5);
        Check.faulty("fire 0 21 1;", 3, 7);
        Check.faulty("fire 0 20 10;", 3, 10);
        Check.faulty("fire 5 111 1;", 3, 5);
        Check.faulty("rain 7;", 3, 5);
        Check.faulty("rain 7?", 3, 5);
        Check.faulty("offer 5 1;", 3, 6);
        Check.faulty("offer 0 0;", 3, 8);
        Check.faulty("offer 0 21;", 3, 8);
        Check.faulty("deaf 1;fire 0 0 0;fire 0 0 0;", 4, 18);
        Check.faulty("deaf 1;fire 0 0 0;fire ?", 4, 18);
        Check.faulty("rain 1;rain 01;", 4, 12);
        Check.faulty("rain 1;rain 1?", 4, 12);
    }

    private static void faultsOfTooMany() {
        Check.faulty("deaf 1;deaf 1;rude 1;cook 1;polite 1; cook ?", 5, 38);
        Check.faulty("deaf 9;offer 0 1;offer 0 1;offer 0 1;offer 0 1;offer", 5, 47);
    }

    private static void faultsBehindAll() {
        Check.faulty("fire 0 1 1;", 6, 11);
        Check.faulty("fire 1 1 1;deaf 3; ", 6, 19);
        Check.faulty("deaf 3;offer 1 1;", 6, 17);
        Check.faulty("deaf 3;offer 0 4;", 7, 17);
        Check.faulty("deaf 3;offer 0 2;offer 0 2;", 7, 27);
        Check.faulty("deaf 3;offer 0 4;offer 1 1;", 6, 27);
        Check.faulty("deaf 3;offer 0 4;deaf", 2, 21);
        FireLeave x = new FireLeave();
        Check.due("a house told behind", Check.tell(x, "fire 1 1 1;offer 1 2;deaf 3;cook 2;"), 4);
    }

    private static void refusedChangesNothing() {
        FireLeave x = Check.city("deaf 9;rude 8;fire 1 5 2;rain 3;offer 0 2;");
        x.go(3);
        x.see(0, 1, 4);
        x.keep(1);
        String before = Check.picture(x);
        Check.due("text()", Check.tell(x, "cook 4;rain 1;offer 0 5;"), -34);
        Check.due("fault()", x.fault(), 7);
        Check.due("text()", Check.tell(x, "deaf 9;rude 8;"), 2);
        Check.due("fault() then", x.fault(), 0);
        x = Check.city("deaf 9;rude 8;fire 1 5 2;rain 3;offer 0 2;");
        x.go(3);
        x.see(0, 1, 4);
        x.keep(1);
        Check.tell(x, "cook 4;rain 1;offer 0 5;");
        Check.same("behind a faulty text", Check.picture(x), before.replaceAll("0 0$", "7 0"));
        Check.due("back(1)", x.back(1), 3);
    }

    private static void takenPutsAllAnew() {
        FireLeave x = Check.city("deaf 9;rude 8;fire 1 5 2;rain 3;");
        x.go(4);
        x.see(0, 1, 4);
        x.keep(0);
        x.keep(1);
        x.sheet(0, 1, 7);
        Check.due("text()", Check.tell(x, "cook 4;"), 1);
        Check.same("behind a text", Check.picture(x), "1 0 3 0 0 0 0 0 4 3 4 0 0 0 0 0 7 0 0");
        Check.due("back(0)", x.back(0), FireLeave.STATE);
        Check.due("back(1)", x.back(1), FireLeave.STATE);
    }

    private static void wrongNumbers() {
        FireLeave x = Check.city("deaf 9;rude 8;");
        Check.due("rule(-1)", x.rule(-1), FireLeave.BAD);
        Check.due("rule(9)", x.rule(9), FireLeave.BAD);
        Check.due("house(-1, 0)", x.house(-1, 0), FireLeave.BAD);
        Check.due("house(2, 0)", x.house(2, 0), FireLeave.BAD);
        Check.due("house(1, 3)", x.house(1, 3), FireLeave.BAD);
        Check.due("house(1, -1)", x.house(1, -1), FireLeave.BAD);
        Check.due("house(1, 1)", x.house(1, 1), 8);
    }
}
