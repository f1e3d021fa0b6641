/** A test for each sentence on promises 1 to 7 (and their terms) that names a boundary. */
public final class EdgeTextTest {
    private static final int BAD = FireLeave.BAD, FULL = FireLeave.FULL, NONE = FireLeave.NONE;
    private static final int LOW = Integer.MIN_VALUE, HIGH = Integer.MAX_VALUE;

    public static void main(String[] args) throws IllegalAccessException {
        Sentences.run(EdgeTextTest.class);
    }

    private static void taken(String text, int lines) {
        FireLeave x = new FireLeave();
        Check.due("text() of '" + text + "'", Check.tell(x, text), lines);
        Check.due("fault() of '" + text + "'", x.fault(), 0);
    }

    // ---- promise 1

    @Promise(number = 1, says = "No HOUSES; SHEETS of nothing.")
    static void noHouseIsThere() {
        FireLeave x = new FireLeave();
        Check.due("rule(0)", x.rule(0), 0);
        Check.due("rule(8)", x.rule(8), 0);
        for (int what = 0; what < 3; what++) {
            Check.bad("house(0, " + what + ")", x.house(0, what));
        }
        Check.bad("alter(0, 1, 5)", x.alter(0, 1, 5));
        Check.bad("set(1, 0)", x.set(1, 0));
        Check.bad("offer(0, 1)", x.offer(0, 1));
        Check.bad("ahead(0, 0)", x.ahead(0, 0));
        Check.bad("bare(0)", x.bare(0));
        Check.bad("see(0, 1, 0)", x.see(0, 1, 0));
    }

    @Promise(number = 1, says = "SHEETS 0 to 3 are rows of BYTES (lane 0), SHORTS (1), INTS (2) with 0 to 40 CELLS, or nothing (at first).")
    static void everySheetIsNothing() {
        FireLeave x = new FireLeave();
        Check.due("count(4)", x.count(4), NONE);
        for (int k = 0; k < 4; k++) {
            Check.due("lay(" + k + ", 0, 1)", x.lay(k, 0, 1), -11);
            for (int lane = 0; lane < 3; lane++) {
                Check.due("read(" + k + ", " + lane + ", 0, 1)", x.read(k, lane, 0, 1), 0);
                Check.due("torn()", x.torn(), 1);
            }
        }
    }

    @Promise(number = 1, says = "FIRE is AT a HOUSE (0 at first), with HUNGER (0 to 20; 3 at first), TEMPER (0 to 9; 0).")
    static void fireAtFirst() {
        FireLeave x = new FireLeave();
        Check.due("rule(1)", x.rule(1), 0);
        Check.due("rule(2)", x.rule(2), 3);
        Check.due("rule(3)", x.rule(3), 0);
    }

    @Promise(number = 1, says = "RAIN falls in some NIGHTS of seven (bits 0 to 6; none at first).")
    static void noRainAtFirst() {
        FireLeave x = new FireLeave();
        Check.due("rule(4)", x.rule(4), 0);
        for (int d = 0; d < 7; d++) {
            Check.due("rain(" + d + ", true)", x.rain(d, true), 0);
        }
        Check.due("rule(4), all bits", x.rule(4), 127);
    }

    @Promise(number = 1, says = "NIGHT (0 at first), BURNT, GIVEN in all (0 at first).")
    static void noNightAtFirst() {
        FireLeave x = new FireLeave();
        Check.due("rule(5)", x.rule(5), 0);
        Check.due("rule(6)", x.rule(6), 0);
        Check.due("rule(7)", x.rule(7), 0);
        Check.due("count(0)", x.count(0), 0);
    }

    @Promise(number = 1, says = "Answers: BAD -1 (a number is not as told, there is no such HOUSE, IMAGE, SHEET), STATE -2 (as told), FULL -3, NONE -4 (there is none), the first that fits;")
    static void whatAnswersMean() {
        FireLeave x = new FireLeave();
        Check.due("a number is not as told: rule(9)", x.rule(9), -1);
        Check.due("no such HOUSE: house(0, 0)", x.house(0, 0), -1);
        Check.due("no such IMAGE: back(2)", x.back(2), -1);
        Check.due("no such SHEET: lay(4, 0, 0)", x.lay(4, 0, 0), -1);
        Check.due("as told: back(0)", x.back(0), -2);
        Check.feed(x, " ".repeat(160));
        Check.due("full: feed(32)", x.feed(32), -3);
        Check.due("there is none: count(4)", x.count(4), -4);
    }

    // ---- promise 2

    @Promise(number = 2, says = "A byte (0 to 127) comes behind THE TAPE: how many it has.")
    static void firstAndLastByte() {
        FireLeave x = new FireLeave();
        Check.due("feed(0)", x.feed(0), 1);
        Check.due("feed(127)", x.feed(127), 2);
        Check.due("feed(0)", x.feed(0), 3);
        Check.due("count(3)", x.count(3), 3);
    }

    @Promise(number = 2, says = "BAD; FULL: more than 160.")
    static void noByte() {
        FireLeave x = new FireLeave();
        x.feed('a');
        for (int c : new int[] {-1, 128, 255, 256, LOW, HIGH}) {
            Check.bad("feed(" + c + ")", x.feed(c));
        }
        Check.due("count(3), nothing came", x.count(3), 1);
    }

    @Promise(number = 2, says = "THE TAPE has 160 bytes, places from 0.")
    static void tapeIsFull() {
        FireLeave x = new FireLeave();
        Check.feed(x, " ".repeat(152));
        Check.feed(x, "deaf 77");
        Check.due("the 160th", x.feed(';'), 160);
        Check.due("the 161st", x.feed(';'), FULL);
        Check.due("the 161st again", x.feed('0'), FULL);
        Check.due("count(3)", x.count(3), 160);
        Check.due("text(), what was refused is not on it", x.text(), 1);
        Check.due("house(0, 1)", x.house(0, 1), 77);
    }

    @Promise(number = 2, says = "the first that fits")
    static void noByteForAFullTape() {
        FireLeave x = new FireLeave();
        Check.feed(x, " ".repeat(160));
        Check.bad("feed(128)", x.feed(128));
        Check.bad("feed(-1)", x.feed(-1));
        Check.due("feed(127)", x.feed(127), FULL);
    }

    // ---- promise 3

    @Promise(number = 3, says = "THE TAPE keeps its first n bytes: how many it had.")
    static void keepsAllAndNone() {
        FireLeave x = new FireLeave();
        Check.due("end(0) of nothing", x.end(0), 0);
        Check.feed(x, "deaf 12;");
        Check.due("end(8), all", x.end(8), 8);
        Check.due("count(3)", x.count(3), 8);
        Check.due("end(7)", x.end(7), 8);
        Check.due("end(6)", x.end(6), 7);
        Check.due("feed comes behind these", x.feed(';'), 7);
        Check.due("text()", x.text(), 1);
        Check.due("house(0, 1), the first bytes", x.house(0, 1), 1);
        Check.feed(x, "xyz");
        Check.due("end(0)", x.end(0), 3);
        Check.due("count(3)", x.count(3), 0);
    }

    @Promise(number = 3, says = "THE TAPE keeps its first n bytes: how many it had. BAD.")
    static void notSoManyBytes() {
        FireLeave x = new FireLeave();
        Check.bad("end(1) of nothing", x.end(1));
        Check.feed(x, "abc");
        for (int n : new int[] {-1, 4, 160, LOW, HIGH}) {
            Check.bad("end(" + n + ")", x.end(n));
        }
        Check.due("count(3)", x.count(3), 3);
    }

    @Promise(number = 3, says = "THE TAPE has 160 bytes")
    static void fullTapeMakesRoom() {
        FireLeave x = new FireLeave();
        Check.feed(x, " ".repeat(160));
        Check.bad("end(161)", x.end(161));
        Check.due("end(160)", x.end(160), 160);
        Check.due("feed, full still", x.feed(' '), FULL);
        Check.due("end(159)", x.end(159), 160);
        Check.due("feed", x.feed(' '), 160);
    }

    // ---- promise 4: tokens and lines

    @Promise(number = 4, says = "THE TAPE (empty then) tells all: how many lines;")
    static void tapeIsEmptyThen() {
        FireLeave x = new FireLeave();
        Check.due("taken", Check.tell(x, "deaf 1;rude 2;"), 2);
        Check.due("count(3)", x.count(3), 0);
        Check.due("refused", Check.tell(x, "deaf 1;rude"), -21);
        Check.due("count(3)", x.count(3), 0);
        Check.due("feed", x.feed('a'), 1);
    }

    @Promise(number = 4, says = "text: { line }")
    static void noLineAtAll() {
        taken("", 0);
        taken(" ", 0);
        taken(" ".repeat(160), 0);
        taken("deaf 1;", 1);
        taken("rain 0;rain 1;rain 2;rain 3;rain 4;rain 5;rain 6;", 7);
        FireLeave x = Check.city("deaf 9;fire 0 9 9;rain 1;");
        Check.due("text() of nothing", x.text(), 0);
        Check.same("all is as at first", Check.picture(x), Check.picture(new FireLeave()));
    }

    @Promise(number = 4, says = "TOKENS, each as long as may be")
    static void longestToken() {
        Check.faulty("deafdeaf 1;", 2, 0);
        Check.faulty("deaf 1234;", 1, 5);
        FireLeave x = Check.city("deaf12;rude34;");
        Check.due("house(0, 1)", x.house(0, 1), 12);
        Check.due("house(1, 1)", x.house(1, 1), 34);
    }

    @Promise(number = 4, says = "blanks (32) between")
    static void blanks() {
        taken("   deaf   1   ;   rude 2   ;   ", 2);
        taken("deaf1;fire0 0 0;", 2);
        for (int c : new int[] {0, 9, 10, 13, 31, 33, 127}) {
            Check.faulty("deaf" + (char) c + "1;", 1, 4);
            Check.faulty("deaf 1;" + (char) c, 1, 7);
        }
    }

    @Promise(number = 4, says = "NAMES (a .. z)")
    static void letters() {
        Check.faulty("a", 2, 0);
        Check.faulty("z", 2, 0);
        for (char c : new char[] {'`', '{', '@', 'A', 'Z', '['}) {
            Check.faulty(c + "deaf 1;", 1, 0);
            Check.faulty("deaf" + c + " 1;", 1, 4);
        }
    }

    @Promise(number = 4, says = "NUMBERS (1 or 2 figures), one ; .")
    static void figures() {
        taken("deaf 0;deaf 9;deaf 00;deaf 09;deaf 99;", 5);
        Check.faulty("deaf 000;", 1, 5);
        Check.faulty("deaf 001;", 1, 5);
        for (char c : new char[] {'/', ':', '-', '+', '.', ',', '<'}) {
            Check.faulty("deaf " + c + "1;", 1, 5);
            Check.faulty("deaf 1" + c + ";", 1, 6);
        }
        Check.faulty("deaf 1;;", 2, 7);
    }

    @Promise(number = 4, says = "line: polite N ; | rude N ; | deaf N ; | cook N ; | fire N N N ; | rain N ; | offer N N ;")
    static void tooFewAndTooManyNumbers() {
        Check.faulty("polite;", 2, 6);
        Check.faulty("rude;", 2, 4);
        Check.faulty("deaf;", 2, 4);
        Check.faulty("cook;", 2, 4);
        Check.faulty("polite 1 1;", 2, 9);
        Check.faulty("rude 1 1;", 2, 7);
        Check.faulty("deaf 1 1;", 2, 7);
        Check.faulty("cook 1 1;", 2, 7);
        Check.faulty("fire;", 2, 4);
        Check.faulty("fire 0;", 2, 6);
        Check.faulty("fire 0 1;", 2, 8);
        Check.faulty("fire 0 1 1 1;", 2, 11);
        Check.faulty("rain;", 2, 4);
        Check.faulty("rain 1 2;", 2, 7);
        Check.faulty("offer;", 2, 5);
        Check.faulty("offer 0;", 2, 7);
        Check.faulty("offer 0 1 1;", 2, 10);
    }

    @Promise(number = 4, says = "polite, rude, deaf, cook: a HOUSE more with such a one: WORTH.")
    static void kindsAndWorthOfLines() {
        FireLeave x = Check.city("cook 0;deaf 99;rude 1;polite 98;");
        int[][] houses = {{3, 0, 0}, {2, 99, 0}, {1, 1, 0}, {0, 98, 0}};
        for (int h = 0; h < 4; h++) {
            for (int what = 0; what < 3; what++) {
                Check.due("house(" + h + ", " + what + ")", x.house(h, what), houses[h][what]);
            }
        }
    }

    @Promise(number = 4, says = "fire: AT (0 to 4), HUNGER, TEMPER.")
    static void fireOfALine() {
        String five = "deaf 1;deaf 1;deaf 1;deaf 1;deaf 1;";
        FireLeave x = Check.city(five + "fire 4 20 9;");
        Check.due("rule(1)", x.rule(1), 4);
        Check.due("rule(2)", x.rule(2), 20);
        Check.due("rule(3)", x.rule(3), 9);
        Check.tell(x, five + "fire 0 0 0;");
        Check.due("rule(1)", x.rule(1), 0);
        Check.due("rule(2)", x.rule(2), 0);
        Check.due("rule(3)", x.rule(3), 0);
        Check.faulty(five + "fire 5 0 0;", 3, 40);
        Check.faulty(five + "fire 0 21 0;", 3, 42);
        Check.faulty(five + "fire 0 0 10;", 3, 44);
    }

    @Promise(number = 4, says = "rain: a NIGHT of seven (0 to 6).")
    static void rainOfALine() {
        FireLeave x = Check.city("rain 0;rain 6;");
        Check.due("rule(4)", x.rule(4), 65);
        Check.faulty("rain 7;", 3, 5);
        Check.faulty("rain 99;", 3, 5);
    }

    @Promise(number = 4, says = "offer: a HOUSE (0 to 4), how much (1 to 20)")
    static void offerOfALine() {
        String five = "deaf 9;deaf 9;deaf 9;deaf 9;deaf 20;";
        FireLeave x = Check.city(five + "fire 0 20 0;offer 0 1;offer 4 20;");
        Check.due("house(0, 2)", x.house(0, 2), 1);
        Check.due("house(4, 2)", x.house(4, 2), 20);
        Check.faulty(five + "offer 5 1;", 3, 42);
        Check.faulty(five + "offer 0 0;", 3, 44);
        Check.faulty(five + "offer 4 21;", 3, 44);
    }

    @Promise(number = 4, says = "it offers ahead of all: behind all lines, by order.")
    static void offersBehindAllLines() {
        FireLeave x = Check.city("offer 0 2;offer 1 3;offer 0 3;fire 1 9 4;deaf 5;cook 4;");
        Check.same("all", Check.picture(x), "2 1 1 4 0 0 0 8 1 2 0 5 3 1 3 8 0 0 0 -4 0 0");
    }

    @Promise(number = 4, says = "HOUSES 0 on (5 at most, by order), in a ring: behind the last one comes HOUSE 0.")
    static void fiveHousesByOrder() {
        FireLeave x = Check.city("deaf 1;deaf 2;deaf 3;deaf 4;deaf 5;");
        Check.due("rule(0)", x.rule(0), 5);
        for (int h = 0; h < 5; h++) {
            Check.due("house(" + h + ", 1)", x.house(h, 1), h + 1);
        }
        Check.bad("house(5, 1)", x.house(5, 1));
    }

    // ---- promise 4: faults

    @Promise(number = 4, says = "FAULTS, the first met as it is read (a TOKEN is read when the one before has been taken)")
    static void firstFaultMet() {
        Check.faulty("rain 7?", 3, 5);
        Check.faulty("fire 5 111 1;", 3, 5);
        Check.faulty("fire 0 21 10;", 3, 7);
        Check.faulty("offer 5 0;", 3, 6);
        Check.faulty("deaf 1;xyz 111;", 2, 7);
        Check.faulty("rain 1;rain 1 ?", 4, 12);
        Check.faulty("deaf ;deaf 100;", 2, 5);
        Check.faulty("deaf 1;fire 4 1 1;deaf", 2, 22);
        Check.faulty("deaf 1;offer 0 9;rain 9;", 3, 22);
    }

    @Promise(number = 4, says = "1 no TOKEN, a NUMBER that is too long (its first byte).")
    static void faultOne() {
        Check.faulty("?", 1, 0);
        Check.faulty("   ?", 1, 3);
        Check.faulty("100", 1, 0);
        Check.faulty("deaf   100;", 1, 7);
        Check.faulty("deaf 1 234;", 1, 7);
        Check.faulty("deaf 1;100 1;", 1, 7);
    }

    @Promise(number = 4, says = "2 a TOKEN that can not stand there (a NAME that begins no line; or the end: the length).")
    static void faultTwo() {
        Check.faulty("house 1;", 2, 0);
        Check.faulty(" dea 1;", 2, 1);
        Check.faulty("deafs 1;", 2, 0);
        Check.faulty("offers 0 1;", 2, 0);
        Check.faulty(";", 2, 0);
        Check.faulty("12;", 2, 0);
        Check.faulty("deaf", 2, 4);
        Check.faulty("deaf   ", 2, 7);
        Check.faulty("deaf 1", 2, 6);
        Check.faulty("deaf 1 ", 2, 7);
        Check.faulty("fire 0", 2, 6);
        Check.faulty("deaf deaf;", 2, 5);
        Check.faulty("deaf 1 deaf 1;", 2, 7);
    }

    @Promise(number = 4, says = "3 a NUMBER out of its bounds.")
    static void faultThree() {
        Check.faulty("fire 99 0 0;", 3, 5);
        Check.faulty("fire  0  99 0;", 3, 9);
        Check.faulty("fire 0 0  99;", 3, 10);
        Check.faulty("rain  07;", 3, 6);
        Check.faulty("offer 0  00;", 3, 9);
        taken("deaf 99;", 1);
    }

    @Promise(number = 4, says = "4 fire for the second time (its NAME); a NIGHT of RAIN already (it).")
    static void faultFour() {
        Check.faulty("deaf 1; fire 0 0 0; fire 0 0 0;", 4, 20);
        Check.faulty("deaf 1; fire 0 0 0; fire", 4, 20);
        Check.faulty("rain 3; rain 03;", 4, 13);
        Check.faulty("rain 0;rain 6;rain  6;", 4, 20);
        taken("deaf 1;fire 0 0 0;", 2);
    }

    @Promise(number = 4, says = "5 the 6th HOUSE, the 5th offer (its NAME).")
    static void faultFive() {
        String five = "deaf 1;rude 1;cook 1;polite 1;deaf 9;";
        taken(five, 5);
        for (String name : new String[] {"polite", "rude", "deaf", "cook"}) {
            Check.faulty(five + " " + name + " 1;", 5, 38);
            Check.faulty(five + name, 5, 37);
        }
        String four = "deaf 9;offer 0 1;offer 0 1;offer 0 1;offer 0 1;";
        taken(four, 5);
        Check.faulty(four + " offer 0 1;", 5, 48);
        Check.faulty(four + "offer", 5, 47);
    }

    @Promise(number = 4, says = "Behind all (the length): 6 a HOUSE that there is not; 7 an offer that is refused.")
    static void faultSix() {
        Check.faulty("fire 0 0 0;", 6, 11);
        Check.faulty("deaf 1;fire 1 0 0;  ", 6, 20);
        Check.faulty("offer 0 1;", 6, 10);
        Check.faulty("deaf 9;deaf 9;offer 2 1;", 6, 24);
        Check.faulty("deaf 9;deaf 9;offer 0 1;offer 4 1; ", 6, 35);
        taken("fire 1 0 0;offer 1 1;deaf 9;deaf 9;", 4);
    }

    @Promise(number = 4, says = "7 an offer that is refused.")
    static void faultSeven() {
        taken("deaf 3;offer 0 3;", 2);
        Check.faulty("deaf 3;offer 0 4;", 7, 17);
        Check.faulty("deaf 0;offer 0 1; ", 7, 18);
        Check.faulty("deaf 3;offer 0 2;offer 0 2;", 7, 27);
    }

    @Promise(number = 4, says = "-10 less the place of its FAULT: that which was told stays.")
    static void placesOfFaults() {
        Check.due("place 0", Check.tell(new FireLeave(), "?"), -10);
        Check.due("place 159", Check.tell(new FireLeave(), " ".repeat(159) + "?"), -169);
        Check.due("place 160, the end", Check.tell(new FireLeave(), " ".repeat(154) + "deaf 1"), -170);
        Check.due("place 160, behind all", Check.tell(new FireLeave(), " ".repeat(149) + "fire 0 1 1;"), -170);
        Check.due("160 bytes, taken", Check.tell(new FireLeave(), " ".repeat(153) + "deaf 1;"), 1);
    }

    @Promise(number = 4, says = "that which was told stays.")
    static void refusedTextChangesNothing() {
        String[] faulty = {"cook 4;?", "cook 4;cook", "cook 4;rain 7;", "rain 1;rain 1;", "cook 4;fire 1 1 1;", "cook 4;offer 0 5;"};
        for (String text : faulty) {
            FireLeave x = Check.city("deaf 9;rude 8;fire 1 5 2;rain 3;offer 0 2;");
            x.go(3);
            x.see(0, 1, 4);
            x.keep(1);
            String before = Check.picture(x);
            Check.due("text() of '" + text + "' is refused", Check.tell(x, text) <= -10 ? 1 : 0, 1);
            Check.same("all behind '" + text + "'", Check.picture(x), before.replaceAll("0 0$", x.fault() + " 0"));
            Check.due("back(1), the IMAGE is there", x.back(1), 3);
        }
    }

    @Promise(number = 4, says = "A text that is taken tells all, in place of what there was; nothing is SEEN; IMAGES are gone.")
    static void takenTextPutsAllAnew() {
        FireLeave x = Check.city("deaf 9;rude 8;cook 7;fire 1 5 2;rain 3;offer 0 2;");
        x.go(4);
        x.see(0, 1, 4);
        x.keep(0);
        x.keep(1);
        Check.due("text()", Check.tell(x, "cook 4;"), 1);
        Check.same("all", Check.picture(x), "1 0 3 0 0 0 0 0 4 3 4 0 0 0 0 0 -4 0 0");
        Check.bad("house(1, 0)", x.house(1, 0));
        Check.due("back(0)", x.back(0), FireLeave.STATE);
        Check.due("back(1)", x.back(1), FireLeave.STATE);
        Check.due("fits(0), nothing is SEEN", x.fits(0), 4);
        Check.due("keep(0), there was none", x.keep(0), 0);
    }

    @Promise(number = 4, says = "what is refused changes nothing (but THE TAPE, as told).")
    static void refusedTextEmptiesTheTape() {
        FireLeave x = new FireLeave();
        for (String text : new String[] {"?", "deaf", "rain 9;", "rain 1;rain 1;", "fire 0 0 0;"}) {
            Check.tell(x, text);
            Check.due("count(3) behind '" + text + "'", x.count(3), 0);
        }
        Check.due("text()", Check.tell(x, "deaf 1;"), 1);
    }

    // ---- promise 5

    @Promise(number = 5, says = "The FAULT of the latest text(); 0.")
    static void faultOfTheLatestText() {
        FireLeave x = new FireLeave();
        Check.due("fault(), no text", x.fault(), 0);
        String five = "deaf 1;deaf 1;deaf 1;deaf 1;deaf 1;";
        String[] faulty = {"?", "deaf", "rain 7;", "rain 1;rain 1;", five + "deaf 1;", "fire 0 1 1;", "deaf 1;offer 0 2;"};
        for (int fault = 1; fault <= 7; fault++) {
            Check.tell(x, faulty[fault - 1]);
            Check.due("fault() of '" + faulty[fault - 1] + "'", x.fault(), fault);
            Check.feed(x, "deaf 1;");
            x.rule(99);
            Check.due("fault() stays until text()", x.fault(), fault);
            x.end(0);
        }
        x.text();
        Check.due("fault(), a text of nothing is taken", x.fault(), 0);
        Check.tell(x, "?");
        Check.tell(x, "deaf 1;");
        Check.due("fault(), taken", x.fault(), 0);
    }

    // ---- promise 6

    @Promise(number = 6, says = "0 HOUSES, 1 AT, 2 HUNGER, 3 TEMPER, 4 RAIN (bits), 5 NIGHT, 6 BURNT, 7 GIVEN, 8 all WORTH.")
    static void everyRule() {
        FireLeave x = Check.city("rude 99;deaf 99;polite 99;cook 99;deaf 99;");
        Check.due("rule(8), the most", x.rule(8), 495);
        Check.tell(x, "rude 99;deaf 99;polite 99;cook 99;deaf 99;fire 1 20 4;rain 6;rain 1;offer 0 7;");
        x.go(1);
        int[] rules = {5, 2, 0, 4, 66, 1, 13, 7, 475};
        for (int what = 0; what < rules.length; what++) {
            Check.due("rule(" + what + ")", x.rule(what), rules[what]);
        }
    }

    @Promise(number = 6, says = "8 all WORTH. BAD.")
    static void noSuchRule() {
        FireLeave x = Check.city("deaf 9;");
        for (int what : new int[] {-1, 9, 10, LOW, HIGH}) {
            Check.bad("rule(" + what + ")", x.rule(what));
        }
    }

    // ---- promise 7

    @Promise(number = 7, says = "Of a HOUSE: 0 KIND, 1 WORTH, 2 LOST.")
    static void everyHouse() {
        FireLeave x = Check.city("polite 10;rude 20;deaf 30;cook 40;deaf 50;offer 0 1;offer 4 9;");
        int[][] houses = {{0, 9, 1}, {1, 20, 0}, {2, 30, 0}, {3, 40, 0}, {2, 41, 9}};
        for (int h = 0; h < 5; h++) {
            for (int what = 0; what < 3; what++) {
                Check.due("house(" + h + ", " + what + ")", x.house(h, what), houses[h][what]);
            }
        }
    }

    @Promise(number = 7, says = "it has WORTH (0 to 99), has LOST so much (0 at first).")
    static void lostGrowsAndIsNoWorth() {
        FireLeave x = Check.city("deaf 99;deaf 0;fire 0 20 0;");
        Check.due("house(0, 2)", x.house(0, 2), 0);
        x.go(1);
        Check.due("house(0, 1)", x.house(0, 1), 79);
        Check.due("house(0, 2)", x.house(0, 2), 20);
        x.alter(0, 1, 99);
        for (int i = 0; i < 6; i++) {
            x.set(1, 0);
            x.set(2, 20);
            x.alter(0, 1, 99);
            x.go(1);
        }
        Check.due("house(0, 2), above 99", x.house(0, 2), 140);
        Check.due("house(1, 1)", x.house(1, 1), 0);
    }

    @Promise(number = 7, says = "2 LOST. BAD.")
    static void noSuchHouse() {
        FireLeave x = Check.city("deaf 9;rude 8;cook 7;deaf 6;deaf 5;");
        for (int what : new int[] {-1, 3, LOW, HIGH}) {
            Check.bad("house(0, " + what + ")", x.house(0, what));
        }
        for (int h : new int[] {-1, 5, LOW, HIGH}) {
            Check.bad("house(" + h + ", 0)", x.house(h, 0));
        }
        Check.tell(x, "deaf 9;");
        Check.due("house(0, 1)", x.house(0, 1), 9);
        Check.bad("house(1, 1), it was there", x.house(1, 1));
    }
}
