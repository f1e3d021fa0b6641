/** What the tests share: each answer is held against the one that is due. */
final class Check {
    private static int wrong = 0;
    private static int asked = 0;
    private static String heading = "";

    private Check() {
    }

    /** What is said ahead of each wrong answer from here on. */
    static void under(String newHeading) {
        heading = newHeading;
    }

    static void due(String call, long got, long want) {
        asked++;
        if (got != want) {
            wrong++;
            System.out.println(heading + call + " answered " + got + ", due is " + want);
        }
    }

    static void bad(String call, long got) {
        due(call, got, FireLeave.BAD);
    }

    /** A new object to which this text has been told. */
    static FireLeave city(String text) {
        FireLeave x = new FireLeave();
        int lines = tell(x, text);
        if (lines < 0) {
            due("text() of '" + text + "'", lines, text.chars().filter(c -> c == ';').count());
        }
        return x;
    }

    static int tell(FireLeave x, String text) {
        feed(x, text);
        return x.text();
    }

    static void feed(FireLeave x, String text) {
        for (int i = 0; i < text.length(); i++) {
            x.feed(text.charAt(i));
        }
    }

    /** A text that is refused with this fault at this place. */
    static void faulty(String text, int fault, int place) {
        FireLeave x = new FireLeave();
        due("text() of '" + text + "'", tell(x, text), -10 - place);
        due("fault() of '" + text + "'", x.fault(), fault);
        due("count(3) behind '" + text + "'", x.count(3), 0);
        due("rule(0) behind '" + text + "'", x.rule(0), 0);
    }

    /** All that the calls tell of the city, as one text, to see that nothing is changed. */
    static String picture(FireLeave x) {
        StringBuilder all = new StringBuilder();
        for (int what = 0; what <= 8; what++) {
            all.append(x.rule(what)).append(' ');
        }
        for (int h = 0; h < x.rule(0); h++) {
            for (int what = 0; what <= 2; what++) {
                all.append(x.house(h, what)).append(' ');
            }
        }
        for (int what = 0; what <= 4; what++) {
            all.append(x.count(what)).append(' ');
        }
        return all.append(x.fault()).append(' ').append(x.torn()).toString();
    }

    static void same(String what, String got, String want) {
        asked++;
        if (!got.equals(want)) {
            wrong++;
            System.out.println(heading + what + ": " + got + ", due is " + want);
        }
    }

    static void finish() {
        System.out.println(wrong == 0 ? asked + " answers are as due" : wrong + " of " + asked + " answers are not as due");
        if (wrong != 0) {
            System.exit(1);
        }
    }
}
