import java.util.Random;

/** All promises at once: long runs of calls by chance (from fixed seeds), each answer held against Model. */
public final class ModelTest {
    private static final int RUNS = 700;
    private static final int CALLS = 512;
    private static final String[] NAMES = {"polite", "rude", "deaf", "cook", "fire", "rain", "offer"};

    private final Random chance;
    private final FireLeave x = new FireLeave();
    private final Model m = new Model();
    private int calls = 0;

    private ModelTest(long seed) {
        chance = new Random(seed);
    }

    public static void main(String[] args) {
        for (int run = 0; run < RUNS; run++) {
            new ModelTest(run).run(run);
        }
        Check.finish();
    }

    private void run(int run) {
        if (chance.nextInt(8) > 0) {
            tell(goodText());
        }
        while (calls < CALLS) {
            call(run, chance.nextInt(48));
        }
    }

    private int upTo(int n) {
        return chance.nextInt(n + 1);
    }

    /** Mostly a number in its bounds, now and then one beside them or far from them. */
    private int near(int low, int high) {
        int dice = chance.nextInt(40);
        if (dice == 0) {
            return low - 1;
        }
        if (dice == 1) {
            return high + 1;
        }
        if (dice == 2) {
            return chance.nextBoolean() ? Integer.MIN_VALUE : Integer.MAX_VALUE;
        }
        if (dice == 3) {
            return chance.nextInt();
        }
        return low + chance.nextInt(Math.max(1, high - low + 1));
    }

    private int aHouse() {
        return near(0, Math.max(0, m.rule(0) - 1));
    }

    private String goodText() {
        StringBuilder text = new StringBuilder();
        int houses = 1 + chance.nextInt(5);
        for (int h = 0; h < houses; h++) {
            text.append(NAMES[chance.nextInt(4)]).append(' ').append(upTo(chance.nextBoolean() ? 99 : 12)).append(';');
        }
        if (chance.nextBoolean()) {
            text.append("fire ").append(chance.nextInt(houses)).append(' ').append(upTo(20)).append(' ').append(upTo(9)).append(';');
        }
        for (int d = 0; d < 7; d++) {
            if (chance.nextInt(5) == 0) {
                text.append("rain ").append(d).append(';');
            }
        }
        for (int i = upTo(2); i > 0; i--) {
            text.append(" offer ").append(chance.nextInt(houses)).append(' ').append(1 + upTo(4)).append(';');
        }
        return text.toString();
    }

    private String anyText() {
        StringBuilder text = new StringBuilder(chance.nextBoolean() ? goodText() : "");
        for (int i = upTo(6); i > 0; i--) {
            int line = chance.nextInt(7);
            text.append(NAMES[line]).append(chance.nextInt(9) > 0 ? " " : "");
            int numbers = line == 4 ? 3 : line == 6 ? 2 : 1;
            for (int k = chance.nextInt(20) == 0 ? upTo(4) : numbers; k > 0; k--) {
                text.append(upTo(line < 4 ? 99 : chance.nextInt(15) == 0 ? 30 : 5)).append(k > 1 ? " " : "");
            }
            text.append(";");
        }
        if (text.length() > 0 && chance.nextInt(3) == 0) {
            text.setCharAt(chance.nextInt(text.length()), (char) chance.nextInt(128));
        }
        if (text.length() > 0 && chance.nextInt(3) == 0) {
            text.setCharAt(chance.nextInt(text.length()), "09az; /:`{".charAt(chance.nextInt(10)));
        }
        if (text.length() > 0 && chance.nextInt(5) == 0) {
            text.setLength(chance.nextInt(text.length()));
        }
        return text.toString();
    }

    private void tell(String text) {
        for (int i = 0; i < text.length(); i++) {
            Check.due("feed of '" + text + "', " + i, x.feed(text.charAt(i)), m.feed(text.charAt(i)));
        }
        Check.due("text() of '" + text + "'", x.text(), m.text());
        Check.due("fault() of '" + text + "'", x.fault(), m.fault());
        calls += text.length() + 2;
    }

    private void due(int run, String call, long got, long want) {
        calls++;
        Check.due("run " + run + ", about call " + calls + ": " + call, got, want);
    }

    private void call(int run, int which) {
        if (which < 16) {
            callOfTextAndChange(run, which);
        } else if (which < 32) {
            callOfPlans(run, which);
        } else {
            callOfSheets(run, which);
        }
    }

    private void callOfTextAndChange(int run, int which) {
        int h = aHouse();
        int what = near(0, 2);
        switch (which) {
            case 0 -> {
                if (chance.nextInt(3) == 0) {
                    tell(anyText());
                }
            }
            case 1 -> {
                int c = near(0, 127);
                due(run, "feed(" + c + ")", x.feed(c), m.feed(c));
            }
            case 2 -> {
                int n = near(0, Math.max(0, m.count(3)));
                due(run, "end(" + n + ")", x.end(n), m.end(n));
            }
            case 3 -> due(run, "fault()", x.fault(), m.fault());
            case 4, 5 -> {
                int rule = near(0, 8);
                due(run, "rule(" + rule + ")", x.rule(rule), m.rule(rule));
            }
            case 6, 7 -> due(run, "house(" + h + ", " + what + ")", x.house(h, what), m.house(h, what));
            case 8, 9 -> {
                int of = near(0, 1);
                int v = of == 0 ? near(0, 3) : near(0, chance.nextBoolean() ? 99 : 9);
                due(run, "alter(" + h + ", " + of + ", " + v + ")", x.alter(h, of, v), m.alter(h, of, v));
            }
            case 10, 11 -> {
                int of = near(1, 3);
                int v = of == 1 ? h : of == 2 ? near(0, 20) : near(0, 9);
                due(run, "set(" + of + ", " + v + ")", x.set(of, v), m.set(of, v));
            }
            case 12 -> {
                int d = near(0, 6);
                boolean is = chance.nextInt(3) == 0;
                due(run, "rain(" + d + ", " + is + ")", x.rain(d, is), m.rain(d, is));
            }
            case 13 -> {
                int n = near(1, chance.nextBoolean() ? 20 : 4);
                due(run, "offer(" + h + ", " + n + ")", x.offer(h, n), m.offer(h, n));
            }
            default -> {
                int n = near(0, chance.nextInt(6) == 0 ? 30 : 4);
                due(run, "go(" + n + ")", x.go(n), m.go(n));
            }
        }
    }

    private void callOfPlans(int run, int which) {
        int h = aHouse();
        int n = near(0, 20);
        int what = near(0, 1);
        String hn = "(" + h + ", " + n + ")";
        String nw = "(" + n + ", " + what + ")";
        switch (which) {
            case 16, 17 -> {
                int nights = near(0, 30);
                int of = near(0, 5);
                due(run, "runs(" + nights + ", " + of + ")", x.runs(nights, of), m.runs(nights, of));
            }
            case 18 -> {
                int nights = near(0, 30);
                due(run, "ahead(" + h + ", " + nights + ")", x.ahead(h, nights), m.ahead(h, nights));
            }
            case 19 -> due(run, "bare(" + h + ")", x.bare(h), m.bare(h));
            case 20 -> {
                if (chance.nextInt(8) == 0) {
                    int of = chance.nextInt(3) == 0 ? near(0, 0) : near(10, 10 + Math.max(0, m.rule(0) - 1));
                    due(run, "best(" + n + ", " + of + ")", x.best(n, of), m.best(n, of));
                }
            }
            case 21, 22 -> due(run, "change" + nw, x.change(n, what), m.change(n, what));
            case 23, 24 -> due(run, "cooks" + nw, x.cooks(n, what), m.cooks(n, what));
            case 25, 26 -> due(run, "appease" + hn, x.appease(h, n), m.appease(h, n));
            case 27 -> due(run, "pray(" + n + ")", x.pray(n), m.pray(n));
            case 28 -> {
                int some = near(0, (1 << m.rule(0)) - 1);
                due(run, "value(" + some + ", " + n + ")", x.value(some, n), m.value(some, n));
            }
            case 29 -> {
                if (m.rule(0) < 5 || chance.nextInt(5) == 0) {
                    due(run, "share(" + h + ", " + n + ", " + what + ")", x.share(h, n, what), m.share(h, n, what));
                }
            }
            default -> {
                int v = near(0, 10);
                String of = "(" + v + ", " + n + ", " + what + ")";
                due(run, "luck" + of, x.luck(v, n, what), m.luck(v, n, what));
                due(run, "mean" + of, x.mean(v, n, what), m.mean(v, n, what));
            }
        }
    }

    private void callOfSheets(int run, int which) {
        int k = near(0, 3);
        int lane = chance.nextInt(4) == 0 ? near(0, 2) : k & 1;
        switch (which) {
            case 32, 33 -> {
                int h = aHouse();
                int n = near(1, 9);
                int v = chance.nextInt(3) == 0 || n < 1 || n > 9 ? near(0, 99) : m.ahead(h, n);
                due(run, "see(" + h + ", " + n + ", " + v + ")", x.see(h, n, v), m.see(h, n, v));
            }
            case 34 -> {
                int n = near(0, Math.max(0, m.count(1)));
                due(run, "forget(" + n + ")", x.forget(n), m.forget(n));
            }
            case 35 -> {
                if (m.rule(0) < 5 || chance.nextInt(4) == 0) {
                    int of = chance.nextBoolean() ? near(0, 1) : near(10, 10 + Math.max(0, m.rule(0) - 1));
                    due(run, "fits(" + of + ")", x.fits(of), m.fits(of));
                }
            }
            case 36 -> {
                if (m.rule(0) < 5 || chance.nextInt(4) == 0) {
                    int of = near(0, 1);
                    due(run, "look(" + of + ")", x.look(of), m.look(of));
                }
            }
            case 37, 38 -> {
                int seed = chance.nextInt();
                int n = near(1, 60);
                int what = near(0, 1);
                due(run, "drift(" + seed + ", " + n + ", " + what + ")", x.drift(seed, n, what), m.drift(seed, n, what));
            }
            case 39 -> {
                int of = near(0, 1);
                due(run, "keep(" + of + ")", x.keep(of), m.keep(of));
            }
            case 40 -> {
                int of = near(0, 1);
                due(run, "back(" + of + ")", x.back(of), m.back(of));
            }
            case 41 -> {
                int n = near(0, 40);
                due(run, "sheet(" + k + ", " + lane + ", " + n + ")", x.sheet(k, lane, n), m.sheet(k, lane, n));
            }
            case 42, 43, 44 -> {
                int i = near(0, 7);
                int v = i % 2 == 0 ? aHouse() : near(1, 4);
                due(run, "lay(" + k + ", " + i + ", " + v + ")", x.lay(k, i, v), m.lay(k, i, v));
            }
            case 45 -> {
                int f = near(0, 9) & ~(chance.nextInt(4) > 0 ? 1 : 0);
                int n = near(0, chance.nextInt(4) > 0 ? 3 : 20);
                due(run, "read(" + k + ", " + lane + ", " + f + ", " + n + ")", x.read(k, lane, f, n), m.read(k, lane, f, n));
                due(run, "torn()", x.torn(), m.torn());
            }
            case 46 -> due(run, "torn()", x.torn(), m.torn());
            default -> {
                int of = near(0, 4);
                due(run, "count(" + of + ")", x.count(of), m.count(of));
            }
        }
    }
}
