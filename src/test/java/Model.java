import java.util.ArrayList;
import java.util.HashMap;
import java.util.HashSet;
import java.util.List;
import java.util.Map;
import java.util.TreeSet;
import java.util.regex.Matcher;
import java.util.regex.Pattern;

/**
 * The document told a second time, in the plainest and slowest way and with all of the library, so
 * that the class can be held against it. It shares no code with the class; the sheets are true rows
 * of the machine, whose own faults are caught here.
 */
final class Model {
    static final int BAD = -1, STATE = -2, FULL = -3, NONE = -4;

    static final class House {
        int kind, worth, lost;

        House(int kind, int worth, int lost) {
            this.kind = kind;
            this.worth = worth;
            this.lost = lost;
        }
    }

    static final class Town {
        List<House> houses = new ArrayList<>();
        int at = 0, hunger = 3, temper = 0, night = 0, burnt = 0, given = 0;
        TreeSet<Integer> rain = new TreeSet<>();
        Map<Integer, Integer> burntOf = new HashMap<>();

        Town copy() {
            Town t = new Town();
            for (House h : houses) {
                t.houses.add(new House(h.kind, h.worth, h.lost));
            }
            t.at = at;
            t.hunger = hunger;
            t.temper = temper;
            t.night = night;
            t.burnt = burnt;
            t.given = given;
            t.rain.addAll(rain);
            return t;
        }

        Town withKinds(String kinds) {
            Town t = copy();
            for (int h = 0; h < houses.size(); h++) {
                t.houses.get(h).kind = kinds.charAt(h) - '0';
            }
            return t;
        }

        Town after(int n) {
            Town t = copy();
            for (int i = 0; i < n; i++) {
                t.step(t.rain.contains(t.night % 7));
            }
            return t;
        }

        void step(boolean raining) {
            night++;
            if (raining || houses.isEmpty()) {
                return;
            }
            int nextAt = (at + 1) % houses.size();
            House here = houses.get(at);
            boolean poor = here.kind == 3 && here.worth == 0;
            if (here.kind == 0 || poor) {
                if (hunger < 20) {
                    hunger++;
                }
            } else if (here.kind == 1) {
                if (temper < 9) {
                    temper++;
                }
                take(nextAt, temper);
            } else if (here.kind == 2) {
                hunger -= take(at, hunger);
            } else {
                here.worth--;
                here.lost++;
                given++;
                if (hunger > 0) {
                    hunger--;
                }
                if (temper > 0) {
                    temper--;
                }
            }
            at = nextAt;
        }

        int take(int h, int want) {
            House house = houses.get(h);
            int had = 0;
            while (had < want && house.worth > 0) {
                house.worth--;
                house.lost++;
                burnt++;
                had++;
            }
            burntOf.merge(h, had, Integer::sum);
            return had;
        }

        int giveAhead(int h, int n) {
            if (h < 0 || h >= houses.size() || n < 1 || n > 20) {
                return BAD;
            }
            if (houses.get(h).worth < n) {
                return STATE;
            }
            houses.get(h).worth -= n;
            houses.get(h).lost += n;
            given += n;
            hunger = hunger > n ? hunger - n : 0;
            return hunger;
        }

        int lossIn(int n) {
            Town t = after(n);
            return t.burnt - burnt + t.given - given;
        }

        int burntIn(int n) {
            return after(n).burnt - burnt;
        }

        Town with(int h, int kind) {
            Town t = copy();
            t.houses.get(h).kind = kind;
            return t;
        }

        Town withAll(int bits, int kind) {
            Town t = copy();
            for (int h = 0; h < houses.size(); h++) {
                if ((bits & 1 << h) != 0) {
                    t.houses.get(h).kind = kind;
                }
            }
            return t;
        }

        /** All kinds of all houses as texts of figures 0 to 3, in order. */
        List<String> allKinds() {
            List<String> all = new ArrayList<>(List.of(""));
            for (int h = 0; h < houses.size(); h++) {
                List<String> longer = new ArrayList<>();
                for (String s : all) {
                    for (int kind = 0; kind < 4; kind++) {
                        longer.add(s + kind);
                    }
                }
                all = longer;
            }
            return all;
        }
    }

    static final class Faulty extends Exception {
        private static final long serialVersionUID = 1L;
        final int fault, place;

        Faulty(int fault, int place) {
            this.fault = fault;
            this.place = place;
        }
    }

    record Sight(int h, int n, int v) {
    }

    record Kept(Town town, List<Sight> seen) {
    }

    private static final Pattern TOKEN = Pattern.compile("[a-z]+|[0-9]+|;");

    private String tape = "";
    private int fault = 0, torn = 0;
    private Town town = new Town();
    private List<Sight> seen = new ArrayList<>();
    private final Map<Integer, Kept> images = new HashMap<>();
    private final Object[] sheets = new Object[4];

    // The text.

    private final class Parser {
        int place = 0, start = 0, lines = 0;
        String token = "";
        Town told = new Town();
        boolean fire = false;
        List<int[]> offers = new ArrayList<>();

        void next() throws Faulty {
            while (place < tape.length() && tape.charAt(place) == 32) {
                place++;
            }
            start = place;
            if (place == tape.length()) {
                token = "";
                return;
            }
            Matcher m = TOKEN.matcher(tape).region(place, tape.length());
            if (!m.lookingAt() || m.group().matches("[0-9]{3,}")) {
                throw new Faulty(1, start);
            }
            token = m.group();
            place = m.end();
        }

        int number(int low, int high) throws Faulty {
            next();
            if (!token.matches("[0-9]+")) {
                throw new Faulty(2, start);
            }
            int n = Integer.parseInt(token);
            if (n < low || n > high) {
                throw new Faulty(3, start);
            }
            return n;
        }

        Town parse() throws Faulty {
            for (next(); !token.isEmpty(); next()) {
                line();
                next();
                if (!token.equals(";")) {
                    throw new Faulty(2, start);
                }
                lines++;
            }
            List<Integer> named = new ArrayList<>();
            if (fire) {
                named.add(told.at);
            }
            offers.forEach(o -> named.add(o[0]));
            if (named.stream().anyMatch(h -> h >= told.houses.size())) {
                throw new Faulty(6, tape.length());
            }
            for (int[] o : offers) {
                if (told.giveAhead(o[0], o[1]) < 0) {
                    throw new Faulty(7, tape.length());
                }
            }
            return told;
        }

        void line() throws Faulty {
            int kind = List.of("polite", "rude", "deaf", "cook").indexOf(token);
            if (kind >= 0) {
                if (told.houses.size() == 5) {
                    throw new Faulty(5, start);
                }
                told.houses.add(new House(kind, number(0, 99), 0));
            } else if (token.equals("fire")) {
                if (fire) {
                    throw new Faulty(4, start);
                }
                fire = true;
                told.at = number(0, 4);
                told.hunger = number(0, 20);
                told.temper = number(0, 9);
            } else if (token.equals("rain")) {
                if (!told.rain.add(number(0, 6))) {
                    throw new Faulty(4, start);
                }
            } else if (token.equals("offer")) {
                if (offers.size() == 4) {
                    throw new Faulty(5, start);
                }
                offers.add(new int[] {number(0, 4), number(1, 20)});
            } else {
                throw new Faulty(2, start);
            }
        }
    }

    int feed(int c) {
        if (c < 0 || c > 127) {
            return BAD;
        }
        if (tape.length() == 160) {
            return FULL;
        }
        tape += (char) c;
        return tape.length();
    }

    int end(int n) {
        if (n < 0 || n > tape.length()) {
            return BAD;
        }
        int had = tape.length();
        tape = tape.substring(0, n);
        return had;
    }

    int text() {
        Parser parser = new Parser();
        try {
            town = parser.parse();
            fault = 0;
            seen = new ArrayList<>();
            images.clear();
            return parser.lines;
        } catch (Faulty f) {
            fault = f.fault;
            return -10 - f.place;
        } finally {
            tape = "";
        }
    }

    int fault() {
        return fault;
    }

    int rule(int what) {
        int bits = town.rain.stream().mapToInt(d -> 1 << d).sum();
        int worth = town.houses.stream().mapToInt(h -> h.worth).sum();
        int[] all = {town.houses.size(), town.at, town.hunger, town.temper, bits, town.night, town.burnt, town.given, worth};
        return what < 0 || what >= all.length ? BAD : all[what];
    }

    private boolean no(int h) {
        return h < 0 || h >= town.houses.size();
    }

    private static boolean not(int v, int low, int high) {
        return v < low || v > high;
    }

    int house(int h, int what) {
        if (no(h) || not(what, 0, 2)) {
            return BAD;
        }
        House house = town.houses.get(h);
        return new int[] {house.kind, house.worth, house.lost}[what];
    }

    // What is changed.

    int alter(int h, int what, int v) {
        if (no(h) || not(what, 0, 1) || not(v, 0, what == 0 ? 3 : 99)) {
            return BAD;
        }
        int was = house(h, what);
        if (what == 0) {
            town.houses.get(h).kind = v;
        } else {
            town.houses.get(h).worth = v;
        }
        return was;
    }

    int set(int what, int v) {
        if (not(what, 1, 3) || not(v, 0, new int[] {0, town.houses.size() - 1, 20, 9}[what])) {
            return BAD;
        }
        int was = rule(what);
        if (what == 1) {
            town.at = v;
        } else if (what == 2) {
            town.hunger = v;
        } else {
            town.temper = v;
        }
        return was;
    }

    int rain(int d, boolean is) {
        if (not(d, 0, 6)) {
            return BAD;
        }
        boolean was = is ? !town.rain.add(d) : town.rain.remove(d);
        return was ? 1 : 0;
    }

    int offer(int h, int n) {
        return town.giveAhead(h, n);
    }

    // Nights.

    int go(int n) {
        if (not(n, 0, 30)) {
            return BAD;
        }
        if (town.night + n >= 1000) {
            return FULL;
        }
        int was = town.burnt;
        town = town.after(n);
        return town.burnt - was;
    }

    int runs(int n, int what) {
        if (not(n, 0, 30) || not(what, 0, 5)) {
            return BAD;
        }
        Town t = town.after(n);
        if (what == 5) {
            for (int i = 0; i <= n; i++) {
                if (town.burntIn(i) > 0) {
                    return i;
                }
            }
            return NONE;
        }
        return new int[] {t.burnt - town.burnt, t.given - town.given, t.hunger, t.temper, t.at}[what];
    }

    int ahead(int h, int n) {
        return no(h) || not(n, 0, 30) ? BAD : town.after(n).houses.get(h).worth;
    }

    int bare(int h) {
        if (no(h)) {
            return BAD;
        }
        for (int n = 0; n <= 60; n++) {
            if (town.after(n).houses.get(h).worth == 0) {
                return n;
            }
        }
        return NONE;
    }

    // Who should be home.

    int best(int n, int what) {
        if (not(n, 0, 20) || what != 0 && (what < 10 || no(what - 10))) {
            return BAD;
        }
        String least = null;
        int loss = 0;
        for (String kinds : town.allKinds()) {
            int l = town.withKinds(kinds).lossIn(n);
            if (least == null || l < loss) {
                least = kinds;
                loss = l;
            }
        }
        return what == 0 ? loss : least.charAt(what - 10) - '0';
    }

    int change(int n, int what) {
        if (not(n, 0, 20) || not(what, 0, 1)) {
            return BAD;
        }
        int asItIs = town.lossIn(n), found = NONE, loss = Integer.MAX_VALUE;
        for (int h = 0; h < town.houses.size(); h++) {
            for (int kind = 0; kind < 4; kind++) {
                if (kind == town.houses.get(h).kind) {
                    continue;
                }
                int l = town.with(h, kind).lossIn(n);
                if (l < asItIs && l < loss) {
                    loss = l;
                    found = 10 * h + kind;
                }
            }
        }
        return found == NONE ? NONE : what == 0 ? found : loss;
    }

    int cooks(int n, int what) {
        if (not(n, 0, 20) || not(what, 0, 1)) {
            return BAD;
        }
        int all = (1 << town.houses.size()) - 1;
        for (int many = 0; many <= 5; many++) {
            for (int some = 0; some <= all; some++) {
                boolean more = true;
                for (int h = 0; h < town.houses.size(); h++) {
                    more &= (some & 1 << h) == 0 || town.houses.get(h).kind != 3;
                }
                if (more && Integer.bitCount(some) == many && town.withAll(some, 3).burntIn(n) == 0) {
                    return what == 0 ? many : some;
                }
            }
        }
        return NONE;
    }

    int appease(int h, int n) {
        if (no(h) || not(n, 0, 20)) {
            return BAD;
        }
        for (int much = 0; much <= 20; much++) {
            Town t = town.copy();
            if (much > 0 && t.giveAhead(h, much) < 0) {
                continue;
            }
            int sum = 0;
            for (int i = 0; i < n; i++) {
                t.step(t.rain.contains(t.night % 7));
            }
            sum += t.burntOf.getOrDefault(h, 0);
            if (sum == 0) {
                return much;
            }
        }
        return NONE;
    }

    int pray(int n) {
        if (not(n, 0, 20)) {
            return BAD;
        }
        int bits = 0;
        for (int d = 0; d < 7; d++) {
            Town t = town.copy();
            if (t.rain.add(d) && t.lossIn(n) < town.lossIn(n)) {
                bits += 1 << d;
            }
        }
        return bits;
    }

    // Shares.

    int value(int some, int n) {
        if (some < 0 || some >= 1 << town.houses.size() || not(n, 0, 20)) {
            return BAD;
        }
        return 1000 + town.lossIn(n) - town.withAll(some, 3).lossIn(n);
    }

    long share(int h, int n, int what) {
        if (no(h) || not(n, 0, 20) || not(what, 0, 1)) {
            return BAD;
        }
        long[] sum = new long[2];
        orders(0, h, n, sum);
        return part(sum[0], sum[1], what);
    }

    /** Adds up, over all orders that go on from here, what VALUE grows by h as it comes. */
    private void orders(int came, int h, int n, long[] sum) {
        if (Integer.bitCount(came) == town.houses.size()) {
            sum[1]++;
            return;
        }
        for (int next = 0; next < town.houses.size(); next++) {
            if ((came & 1 << next) == 0) {
                int then = came | 1 << next;
                if (next == h) {
                    long behind = 1;
                    for (int i = 2; i <= town.houses.size() - Integer.bitCount(then); i++) {
                        behind *= i;
                    }
                    sum[0] += behind * (value(then, n) - value(came, n));
                }
                orders(then, h, n, sum);
            }
        }
    }

    private static long part(long upper, long lower, int what) {
        for (long d = lower; d > 1; d--) {
            if (upper % d == 0 && lower % d == 0) {
                upper /= d;
                lower /= d;
            }
        }
        return what == 0 ? upper : lower;
    }

    // Who is out.

    private long[] outs(int h, Town t, long odds, int v, int n) {
        if (h == town.houses.size()) {
            return new long[] {t.burntIn(n) == 0 ? odds : 0, odds * t.lossIn(n), odds};
        }
        long[] out = outs(h + 1, t.with(h, 2), odds * v, v, n);
        long[] in = outs(h + 1, t, odds * (10 - v), v, n);
        return new long[] {out[0] + in[0], out[1] + in[1], out[2] + in[2]};
    }

    long luck(int v, int n, int what) {
        if (not(v, 0, 10) || not(n, 0, 20) || not(what, 0, 1)) {
            return BAD;
        }
        long[] all = outs(0, town, 1, v, n);
        return part(all[0], all[2], what);
    }

    long mean(int v, int n, int what) {
        if (not(v, 0, 10) || not(n, 0, 20) || not(what, 0, 1)) {
            return BAD;
        }
        long[] all = outs(0, town, 1, v, n);
        return part(all[1], all[2], what);
    }

    // What was left.

    int see(int h, int n, int v) {
        if (no(h) || not(n, 1, 9) || not(v, 0, 99)) {
            return BAD;
        }
        if (seen.size() == 6) {
            return FULL;
        }
        seen.add(new Sight(h, n, v));
        return seen.size();
    }

    int forget(int n) {
        if (not(n, 0, seen.size())) {
            return BAD;
        }
        int were = seen.size();
        seen = new ArrayList<>(seen.subList(0, n));
        return were;
    }

    private List<String> fitting() {
        List<String> fit = new ArrayList<>();
        for (String kinds : town.allKinds()) {
            Town t = town.withKinds(kinds);
            if (seen.stream().allMatch(s -> t.after(s.n).houses.get(s.h).worth == s.v)) {
                fit.add(kinds);
            }
        }
        return fit;
    }

    int fits(int what) {
        if (not(what, 0, 1) && (what < 10 || no(what - 10))) {
            return BAD;
        }
        List<String> fit = fitting();
        if (what == 0) {
            return fit.size();
        }
        if (what == 1) {
            return fit.isEmpty() ? NONE : fit.get(0).isEmpty() ? 0 : Integer.parseInt(fit.get(0), 4);
        }
        HashSet<Integer> some = new HashSet<>();
        fit.forEach(kinds -> some.add(1 << kinds.charAt(what - 10) - '0'));
        return some.stream().mapToInt(Integer::intValue).sum();
    }

    int look(int what) {
        if (not(what, 0, 1)) {
            return BAD;
        }
        List<String> fit = fitting();
        int where = NONE, fewest = fit.size();
        Map<Integer, Map<Integer, Integer>> groups = new HashMap<>();
        for (String kinds : fit) {
            Town t = town.withKinds(kinds);
            for (int n = 1; n <= 9; n++) {
                t = t.after(1);
                for (int h = 0; h < town.houses.size(); h++) {
                    groups.computeIfAbsent(10 * h + n, k -> new HashMap<>()).merge(t.houses.get(h).worth, 1, Integer::sum);
                }
            }
        }
        for (int at : new TreeSet<>(groups.keySet())) {
            int worst = groups.get(at).values().stream().mapToInt(Integer::intValue).max().orElse(0);
            if (worst < fewest) {
                fewest = worst;
                where = at;
            }
        }
        return where == NONE ? NONE : what == 0 ? where : fewest;
    }

    // By a seed.

    int drift(int seed, int n, int what) {
        if (not(n, 1, 60) || not(what, 0, 1)) {
            return BAD;
        }
        if (town.houses.isEmpty()) {
            return STATE;
        }
        Town t = town.copy();
        long grown = seed & 0xffffffffL;
        for (int i = 0; i < n; i++) {
            grown = (grown * 1103515245L + 12345L) % 4294967296L;
            int got = (int) (grown / 65536 % 32768);
            boolean raining = got % 8 < 2;
            if (!raining) {
                t.houses.get(t.at).kind = got / 8 % 4;
            }
            t.step(raining);
        }
        return what == 0 ? t.burnt - town.burnt : t.houses.stream().mapToInt(h -> h.worth).sum();
    }

    // Images, sheets.

    int keep(int k) {
        if (not(k, 0, 1)) {
            return BAD;
        }
        return images.put(k, new Kept(town.copy(), new ArrayList<>(seen))) == null ? 0 : 1;
    }

    int back(int k) {
        if (not(k, 0, 1)) {
            return BAD;
        }
        if (!images.containsKey(k)) {
            return STATE;
        }
        town = images.get(k).town.copy();
        seen = new ArrayList<>(images.get(k).seen);
        return town.night;
    }

    int sheet(int k, int lane, int n) {
        if (not(k, 0, 3) || not(lane, 0, 2) || n > 40) {
            return BAD;
        }
        try {
            sheets[k] = lane == 0 ? new byte[n] : lane == 1 ? new short[n] : (Object) new int[n];
            return 1;
        } catch (NegativeArraySizeException e) {
            return -14;
        }
    }

    int lay(int k, int i, int v) {
        if (not(k, 0, 3)) {
            return BAD;
        }
        try {
            if (sheets[k] instanceof byte[] b) {
                b[i] = (byte) v;
            } else if (sheets[k] instanceof short[] s) {
                s[i] = (short) v;
            } else {
                ((int[]) sheets[k])[i] = v;
            }
            return 1;
        } catch (NullPointerException e) {
            return -11;
        } catch (ArrayIndexOutOfBoundsException e) {
            return -12;
        }
    }

    private int cell(int k, int lane, int i) {
        return lane == 0 ? ((byte[]) sheets[k])[i] : lane == 1 ? ((short[]) sheets[k])[i] : ((int[]) sheets[k])[i];
    }

    int read(int k, int lane, int f, int n) {
        if (not(k, 0, 3) || not(lane, 0, 2) || not(n, 0, 20)) {
            return BAD;
        }
        Town t = town.copy();
        int came = 0, found = 0;
        try {
            for (int i = 0; i < n; i++) {
                int h = cell(k, lane, f + 2 * i);
                int much = cell(k, lane, f + 2 * i + 1);
                if (t.giveAhead(h, much) < 0) {
                    return -20 - i;
                }
                came++;
            }
        } catch (NullPointerException e) {
            found = 1;
        } catch (ArrayIndexOutOfBoundsException e) {
            found = 2;
        } catch (ClassCastException e) {
            found = 3;
        }
        town = t;
        torn = found;
        return came;
    }

    int torn() {
        return torn;
    }

    int count(int what) {
        if (not(what, 0, 4)) {
            return BAD;
        }
        int cells = sheets[0] == null ? NONE : java.lang.reflect.Array.getLength(sheets[0]);
        int lost = town.houses.stream().mapToInt(h -> h.lost).sum();
        return new int[] {lost, seen.size(), images.size(), tape.length(), cells}[what];
    }
}
