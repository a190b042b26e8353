import java.util.ArrayList;
import java.util.Arrays;
import java.util.Comparator;
import java.util.HashMap;
import java.util.List;
import java.util.Map;

/**
 * The document once more, by other means than the program's: lists, trees and exceptions,
 * brute force where it is short enough. Random runs are held against it.
 */
final class Oracle {
    static final class Guest {
        int rank, nose, fear, bag, pace, wades, crabs;
        boolean swims, here = true;

        Guest copy() {
            Guest g = new Guest();
            g.rank = rank;
            g.nose = nose;
            g.fear = fear;
            g.bag = bag;
            g.pace = pace;
            g.wades = wades;
            g.crabs = crabs;
            g.swims = swims;
            g.here = here;
            return g;
        }
    }

    static final class Fault extends RuntimeException {
        final int kind, place;

        Fault(int kind, int place) {
            this.kind = kind;
            this.place = place;
        }
    }

    interface Tree {
        long value(Map<String, Long> names);
    }

    record Clause(String kind, Tree tree) { }

    /** All of the latest night: one row of places by each seating; null where not here. */
    static final class Night {
        Map<Integer, long[]> wetUnderMoves = new HashMap<>();
        List<Map<Integer, Integer>> seatings = new ArrayList<>();
        int quarrels = 0;
    }

    static final class State {
        int[] height;
        boolean[] shore;
        int inn, wind, moon, text = -1;
        List<int[]> perches = new ArrayList<>();
        List<Guest> guests = new ArrayList<>();
        List<List<Clause>> texts = new ArrayList<>();
        List<Integer> horses = new ArrayList<>();
        List<int[]> book = new ArrayList<>();
        Night night = null;

        State copy() {
            State s = new State();
            s.height = height.clone();
            s.shore = shore.clone();
            s.inn = inn;
            s.wind = wind;
            s.moon = moon;
            s.text = text;
            s.perches.addAll(perches);
            for (Guest g : guests) {
                s.guests.add(g.copy());
            }
            s.texts.addAll(texts);
            s.horses.addAll(horses);
            s.book.addAll(book);
            s.night = night;
            return s;
        }
    }

    final int w, h;
    State now = new State();
    State image;
    String tape = "";
    boolean read = false;
    int faultKind = 0, faultPlace = -1;

    Oracle(int width, int height) {
        w = width < 2 ? 2 : width > 6 ? 6 : width;
        h = height < 2 ? 2 : height > 6 ? 6 : height;
        now.height = new int[w * h];
        now.shore = new boolean[w * h];
        image = now.copy();
    }

    static boolean in(int v, int a, int b) {
        return a <= v && v <= b;
    }

    boolean isGuest(int g) {
        return in(g, 0, now.guests.size() - 1);
    }

    static boolean isMinute(int m) {
        return in(m, 0, 1439);
    }

    // ---- I, and what is told

    boolean cell(int cell, int height, boolean shore) {
        if (!in(cell, 0, w * h - 1) || !in(height, 0, 99)) {
            return false;
        }
        now.height[cell] = height;
        now.shore[cell] = shore;
        return true;
    }

    boolean inn(int cell) {
        if (!in(cell, 0, w * h - 1)) {
            return false;
        }
        now.inn = cell;
        return true;
    }

    boolean sky(int wind, int moon) {
        if (!in(wind, -9, 9) || !in(moon, 0, 9)) {
            return false;
        }
        now.wind = wind;
        now.moon = moon;
        return true;
    }

    int perch(int high, int room) {
        if (!in(high, 0, 99) || !in(room, 1, 4) || now.perches.size() == 8) {
            return -1;
        }
        now.perches.add(new int[] {high, room});
        return now.perches.size() - 1;
    }

    int guest(int rank, int nose, boolean swims, int fear, int bag, int pace, int wades) {
        if (!in(rank, 0, 9) || !in(nose, 0, 30) || !in(fear, 0, 9) || !in(bag, 0, 9)
            || !in(pace, 1, 20) || !in(wades, 0, 30) || now.guests.size() == 10) {
            return -1;
        }
        Guest g = new Guest();
        g.rank = rank;
        g.nose = nose;
        g.swims = swims;
        g.fear = fear;
        g.bag = bag;
        g.pace = pace;
        g.wades = wades;
        now.guests.add(g);
        return now.guests.size() - 1;
    }

    boolean here(int guest, int crabs, boolean is) {
        if (!isGuest(guest) || !in(crabs, 0, 99)) {
            return false;
        }
        now.guests.get(guest).crabs = crabs;
        now.guests.get(guest).here = is;
        return true;
    }

    // ---- II, texts

    int feed(int a, int b, int c, int d, int e) {
        if (tape.length() > 280) {
            return -1;
        }
        StringBuilder s = new StringBuilder(tape);
        for (int four : new int[] {a, b, c, d, e}) {
            s.append((char) (four >>> 24)).append((char) ((four >> 16) & 255));
            s.append((char) ((four >> 8) & 255)).append((char) (four & 255));
        }
        tape = s.toString();
        return tape.length();
    }

    int end(int n) {
        if (n < 0 || n > tape.length()) {
            return -1;
        }
        tape = tape.substring(0, n);
        return n;
    }

    int text() {
        if (now.texts.size() == 6) {
            return -1;
        }
        read = true;
        faultKind = 0;
        faultPlace = -1;
        try {
            List<Clause> clauses = new Parser(tape).all();
            now.texts.add(clauses);
        } catch (Fault f) {
            faultKind = f.kind;
            faultPlace = f.place;
        }
        tape = "";
        return faultKind == 0 ? now.texts.size() - 1 : -1;
    }

    int fault(int what) {
        if (!read) {
            return -1;
        }
        return what == 0 ? faultKind : what == 1 ? faultPlace : -1;
    }

    boolean by(int text) {
        if (text != -1 && !in(text, 0, now.texts.size() - 1)) {
            return false;
        }
        now.text = text;
        return true;
    }

    static final class Parser {
        final String s;
        int i = 0;
        int depth = 0;
        String token;
        int at;
        List<String> allowed;

        static final List<String> ONCE = List.of("tide", "wish", "bill", "raft");
        static final List<String> NAMES = List.of("minute", "wind", "moon", "rank", "swim", "fear", "bag",
            "high", "level", "with", "other", "wet", "moves", "crabs", "doors");
        static final Map<String, List<String>> OF = Map.of(
            "tide", List.of("minute", "wind", "moon"),
            "wish", List.of("minute", "rank", "swim", "fear", "bag", "high", "level", "with"),
            "bars", List.of("minute", "rank", "swim", "fear", "bag", "high", "level", "with"),
            "quarrel", List.of("minute", "rank", "fear", "other"),
            "bill", List.of("rank", "bag", "wet", "moves", "crabs"),
            "raft", List.of("doors"));

        Parser(String s) {
            this.s = s;
            next();
        }

        void next() {
            while (i < s.length() && " \n".indexOf(s.charAt(i)) >= 0) {
                i++;
            }
            at = i;
            if (i == s.length()) {
                token = "";
                return;
            }
            for (String kind : new String[] {"[A-Za-z]+", "[0-9]+", "<=|>=", "[<>=#+*/();-]"}) {
                java.util.regex.Matcher m = java.util.regex.Pattern.compile(kind).matcher(s).region(i, s.length());
                if (m.lookingAt()) {
                    token = m.group();
                    i = m.end();
                    return;
                }
            }
            token = "\u0000";
            i++;
        }

        Fault wrong(int kind) {
            return new Fault(kind, at);
        }

        boolean is(String what) {
            if (token.equals(what)) {
                next();
                return true;
            }
            return false;
        }

        List<Clause> all() {
            List<Clause> list = new ArrayList<>();
            while (!token.isEmpty()) {
                String kind = token;
                if (!OF.containsKey(kind)) {
                    throw wrong(1);
                }
                if (ONCE.contains(kind) && list.stream().anyMatch(c -> c.kind.equals(kind))) {
                    throw wrong(4);
                }
                if (list.size() == 10) {
                    throw wrong(6);
                }
                next();
                allowed = OF.get(kind);
                Tree tree = ONCE.contains(kind) ? sum() : either();
                if (!is(";")) {
                    throw wrong(1);
                }
                list.add(new Clause(kind, tree));
            }
            return list;
        }

        void open() {
            if (depth == 8) {
                throw wrong(3);
            }
            depth++;
        }

        Tree either() {
            Tree left = both();
            while (is("or")) {
                Tree a = left;
                Tree b = both();
                left = n -> a.value(n) + b.value(n) > 0 ? 1 : 0;
            }
            return left;
        }

        Tree both() {
            Tree left = ask();
            while (is("and")) {
                Tree a = left;
                Tree b = ask();
                left = n -> a.value(n) * b.value(n);
            }
            return left;
        }

        Tree ask() {
            if (token.equals("not")) {
                open();
                next();
                Tree inner = ask();
                depth--;
                return n -> inner.value(n) == 0 ? 1 : 0;
            }
            Tree a = sum();
            String sign = token;
            if (!List.of("<", "<=", ">", ">=", "=", "#").contains(sign)) {
                throw wrong(1);
            }
            next();
            Tree b = sum();
            return n -> {
                int c = Long.compare(a.value(n), b.value(n));
                boolean so = switch (sign) {
                    case "<" -> c < 0;
                    case "<=" -> c <= 0;
                    case ">" -> c > 0;
                    case ">=" -> c >= 0;
                    case "=" -> c == 0;
                    default -> c != 0;
                };
                return so ? 1 : 0;
            };
        }

        static long cut(long v) {
            return v > 1000000 ? 1000000 : v < -1000000 ? -1000000 : v;
        }

        Tree sum() {
            Tree left = product();
            while (token.equals("+") || token.equals("-")) {
                boolean plus = token.equals("+");
                next();
                Tree a = left;
                Tree b = product();
                left = n -> cut(plus ? a.value(n) + b.value(n) : a.value(n) - b.value(n));
            }
            return left;
        }

        Tree product() {
            Tree left = one();
            while (token.equals("*") || token.equals("/")) {
                boolean times = token.equals("*");
                next();
                Tree a = left;
                Tree b = one();
                left = n -> {
                    long x = a.value(n);
                    long y = b.value(n);
                    return times ? cut(x * y) : y == 0 ? 0 : x / y;
                };
            }
            return left;
        }

        Tree one() {
            if (token.equals("-")) {
                open();
                next();
                Tree inner = one();
                depth--;
                return n -> -inner.value(n);
            }
            if (token.equals("(")) {
                open();
                next();
                Tree inner = sum();
                if (!token.equals(")")) {
                    throw wrong(1);
                }
                depth--;
                next();
                return inner;
            }
            if (token.matches("[0-9]+")) {
                if (new java.math.BigInteger(token).compareTo(java.math.BigInteger.valueOf(9999)) > 0) {
                    throw wrong(2);
                }
                long number = Long.parseLong(token);
                next();
                return n -> number;
            }
            if (!NAMES.contains(token)) {
                throw wrong(1);
            }
            if (!allowed.contains(token)) {
                throw wrong(5);
            }
            String name = token;
            next();
            return n -> n.get(name);
        }
    }

    List<Tree> clauses(String kind) {
        List<Tree> list = new ArrayList<>();
        if (now.text >= 0) {
            for (Clause c : now.texts.get(now.text)) {
                if (c.kind.equals(kind)) {
                    list.add(c.tree);
                }
            }
        }
        return list;
    }

    static int between(long v, int a, int b) {
        return (int) (v < a ? a : v > b ? b : v);
    }

    int levelOf(int minute) {
        List<Tree> tide = clauses("tide");
        if (tide.isEmpty()) {
            int t = minute >= 720 ? minute - 720 : minute;
            int away = t < 360 ? 360 - t : t - 360;
            return 90 - away / 4;
        }
        return between(tide.get(0).value(Map.of("minute", (long) minute, "wind", (long) now.wind,
            "moon", (long) now.moon)), 0, 999);
    }

    int level(int minute) {
        return isMinute(minute) ? levelOf(minute) : -1;
    }

    // ---- III

    int highOf(int perch) {
        return perch < 0 || perch >= now.perches.size() ? 0 : now.perches.get(perch)[0];
    }

    List<Integer> here() {
        List<Integer> list = new ArrayList<>();
        for (int g = 0; g < now.guests.size(); g++) {
            if (now.guests.get(g).here) {
                list.add(g);
            }
        }
        return list;
    }

    Map<Integer, Integer> seated(List<Integer> set, int minute) {
        List<Integer> order = new ArrayList<>(set);
        order.sort(Comparator.comparing((Integer g) -> -now.guests.get(g).rank).thenComparing(g -> g));
        Map<Integer, Integer> places = new HashMap<>();
        int level = levelOf(minute);
        List<Tree> bars = clauses("bars");
        List<Tree> wishes = clauses("wish");
        for (int g : order) {
            Guest one = now.guests.get(g);
            int best = -1;
            long most = Long.MIN_VALUE;
            for (int p = 0; p < now.perches.size(); p++) {
                int perch = p;
                long with = places.values().stream().filter(x -> x == perch).count();
                if (with >= now.perches.get(p)[1]) {
                    continue;
                }
                Map<String, Long> names = new HashMap<>();
                names.put("minute", (long) minute);
                names.put("rank", (long) one.rank);
                names.put("swim", one.swims ? 1L : 0L);
                names.put("fear", (long) one.fear);
                names.put("bag", (long) one.bag);
                names.put("high", (long) highOf(p));
                names.put("level", (long) level);
                names.put("with", with);
                boolean barred = false;
                for (Tree bar : bars) {
                    barred |= bar.value(names) != 0;
                }
                long wish = wishes.isEmpty() ? highOf(p) : wishes.get(0).value(names);
                if (!barred && wish > most) {
                    most = wish;
                    best = p;
                }
            }
            places.put(g, best);
        }
        return places;
    }

    int seat(int minute, int guest) {
        if (!isMinute(minute) || !isGuest(guest) || !now.guests.get(guest).here) {
            return -2;
        }
        return seated(here(), minute).get(guest);
    }

    boolean quarrel(int one, int other, int minute) {
        Map<String, Long> names = Map.of("minute", (long) minute, "rank", (long) now.guests.get(one).rank,
            "fear", (long) now.guests.get(one).fear, "other", (long) now.guests.get(other).rank);
        return clauses("quarrel").stream().anyMatch(q -> q.value(names) != 0);
    }

    int night(int from, int to, int every) {
        if (!isMinute(from) || !isMinute(to) || from > to || !in(every, 1, 60)) {
            return -1;
        }
        Night night = new Night();
        List<Integer> here = here();
        for (int g : here) {
            night.wetUnderMoves.put(g, new long[3]);
        }
        Map<Integer, Integer> places = null;
        for (int t = from; t <= to; t++) {
            if ((t - from) % every == 0) {
                Map<Integer, Integer> anew = seated(here, t);
                for (int a : here) {
                    if (places != null && !places.get(a).equals(anew.get(a))) {
                        night.wetUnderMoves.get(a)[2]++;
                    }
                    for (int b : here) {
                        boolean pair = a < b && anew.get(a) >= 0 && anew.get(a).equals(anew.get(b));
                        if (pair && (quarrel(a, b, t) || quarrel(b, a, t))) {
                            night.quarrels++;
                        }
                    }
                }
                places = anew;
                night.seatings.add(anew);
            }
            int level = levelOf(t);
            for (int g : here) {
                int high = highOf(places.get(g));
                night.wetUnderMoves.get(g)[0] += level > high ? 1 : 0;
                night.wetUnderMoves.get(g)[1] += level > high + now.guests.get(g).nose ? 1 : 0;
            }
        }
        now.night = night;
        return night.seatings.size();
    }

    int told(int guest, int what) {
        if (what == 4) {
            return now.night == null ? 0 : now.night.quarrels;
        }
        if (!isGuest(guest) || !in(what, 0, 3)) {
            return -2;
        }
        if (now.night == null || !now.night.wetUnderMoves.containsKey(guest)) {
            return 0;
        }
        long[] row = now.night.wetUnderMoves.get(guest);
        if (what < 3) {
            return (int) row[what];
        }
        Guest one = now.guests.get(guest);
        List<Tree> bill = clauses("bill");
        if (bill.isEmpty()) {
            return (int) ((row[0] / 60 + (row[0] % 60 > 0 ? 1 : 0)) * 10 + one.crabs);
        }
        return between(bill.get(0).value(Map.of("rank", (long) one.rank, "bag", (long) one.bag, "wet", row[0],
            "moves", row[2], "crabs", (long) one.crabs)), 0, 999999);
    }

    int sat(int guest, int k) {
        if (!isGuest(guest) || now.night == null || k < 0 || k >= 50 || k >= now.night.seatings.size()
            || !now.night.seatings.get(k).containsKey(guest)) {
            return -2;
        }
        return now.night.seatings.get(k).get(guest);
    }

    // ---- IV

    int beside(int c, int side) {
        int x = c % w;
        int y = c / w;
        int bx = x + new int[] {0, -1, 1, 0}[side];
        int by = y + new int[] {-1, 0, 0, 1}[side];
        return in(bx, 0, w - 1) && in(by, 0, h - 1) ? bx + w * by : -1;
    }

    boolean canBe(Guest g, int c, int t) {
        return isMinute(t) && levelOf(t) <= now.height[c] + g.wades;
    }

    /** The fewest steps to safety of one who is in a cell at a minute; 1000 without a way. */
    int steps(Guest g, int c, int t, Map<Integer, Integer> memo) {
        if (now.shore[c]) {
            return 0;
        }
        Integer known = memo.get(t * 36 + c);
        if (known != null) {
            return known;
        }
        int best = 1000;
        for (int side = 0; side < 4; side++) {
            int to = beside(c, side);
            if (to >= 0 && canBe(g, to, t + g.pace)) {
                best = Math.min(best, 1 + steps(g, to, t + g.pace, memo));
            }
        }
        memo.put(t * 36 + c, best);
        return best;
    }

    int way(int guest, int m, int k) {
        if (!isGuest(guest) || !isMinute(m) || k < -1) {
            return -1;
        }
        Guest g = now.guests.get(guest);
        Map<Integer, Integer> memo = new HashMap<>();
        int all = steps(g, now.inn, m, memo);
        if (all > w * h || k >= all) {
            return -1;
        }
        if (k == -1) {
            return all;
        }
        int c = now.inn;
        for (int i = 0; i <= k; i++) {
            int t = m + i * g.pace;
            int left = steps(g, c, t, memo);
            for (int side = 0; side < 4; side++) {
                int to = beside(c, side);
                if (to >= 0 && canBe(g, to, t + g.pace) && steps(g, to, t + g.pace, memo) == left - 1) {
                    c = to;
                    break;
                }
            }
        }
        return c;
    }

    int last(int guest) {
        if (!isGuest(guest)) {
            return -1;
        }
        Map<Integer, Integer> memo = new HashMap<>();
        for (int m = 1439; m >= 0; m--) {
            if (steps(now.guests.get(guest), now.inn, m, memo) <= w * h) {
                return m;
            }
        }
        return -1;
    }

    int distance(int c) {
        int best = 1000;
        for (int s = 0; s < w * h; s++) {
            if (now.shore[s]) {
                best = Math.min(best, Math.abs(s % w - c % w) + Math.abs(s / w - c / w));
            }
        }
        return best;
    }

    long safeParts(Guest g, int c, int t, int drunk, int n, Map<Integer, Long> memo) {
        if (now.shore[c]) {
            return (long) Math.pow(12, n);
        }
        if (n == 0) {
            return 0;
        }
        Long known = memo.get(n * 36 + c);
        if (known != null) {
            return known;
        }
        int aim = -1;
        for (int to = w * h - 1; to >= 0; to--) {
            boolean by = Math.abs(to % w - c % w) + Math.abs(to / w - c / w) == 1;
            if (by && distance(to) < distance(c)) {
                aim = to;
            }
        }
        long sum = 0;
        for (int side = 0; side < 4; side++) {
            int to = beside(c, side);
            int parts = to == aim ? 12 - 3 * drunk : drunk;
            int comes = to < 0 ? c : to;
            if (canBe(g, comes, t + g.pace)) {
                sum += parts * safeParts(g, comes, t + g.pace, drunk, n - 1, memo);
            }
        }
        memo.put(n * 36 + c, sum);
        return sum;
    }

    int pilot(int guest, int m, int drunk, int n) {
        if (!isGuest(guest) || !isMinute(m) || !in(drunk, 0, 3) || !in(n, 1, 10)) {
            return -1;
        }
        boolean any = false;
        for (boolean s : now.shore) {
            any |= s;
        }
        if (!any) {
            return 0;
        }
        long parts = safeParts(now.guests.get(guest), now.inn, m, drunk, n, new HashMap<>());
        return (int) (parts * 1000 / (long) Math.pow(12, n));
    }

    // ---- V

    int[] bestGiven;
    int bestWet;

    void giveAll(List<Integer> here, int i, int[] places, int[] room, int wet, int level) {
        if (wet >= bestWet) {
            return;
        }
        if (i == here.size()) {
            bestWet = wet;
            bestGiven = places.clone();
            return;
        }
        for (int p = 0; p <= 8; p++) {
            if (p < 8 && room[p] == 0) {
                continue;
            }
            int high = p < 8 ? now.perches.get(p)[0] : 0;
            if (p < 8) {
                room[p]--;
            }
            places[i] = p;
            giveAll(here, i + 1, places, room, wet + (level > high ? now.guests.get(here.get(i)).rank + 1 : 0), level);
            if (p < 8) {
                room[p]++;
            }
        }
    }

    int given(int minute, int guest) {
        List<Integer> here = here();
        if (!isMinute(minute) || here.size() > 5 || guest != -1 && !here.contains(guest)) {
            return -1;
        }
        int[] room = new int[8];
        for (int p = 0; p < now.perches.size(); p++) {
            room[p] = now.perches.get(p)[1];
        }
        bestWet = 1000;
        giveAll(here, 0, new int[here.size()], room, 0, levelOf(minute));
        return guest == -1 ? bestWet : bestGiven[here.indexOf(guest)];
    }

    int hatch(int m, int what) {
        if (!isMinute(m) || !in(what, 0, 2)) {
            return -1;
        }
        List<Integer> here = here();
        Map<Integer, Integer> places = seated(here, m);
        Map<Integer, Integer> ends = new HashMap<>();
        for (int g : here) {
            int t = m;
            while (t < 1440 && levelOf(t) <= highOf(places.get(g)) + now.guests.get(g).nose) {
                t++;
            }
            ends.put(g, t);
        }
        List<Integer> line = new ArrayList<>(here);
        line.sort(Comparator.comparing((Integer g) -> ends.get(g)).thenComparing(g -> g));
        int best = 0;
        int most = 0;
        for (int set = 0; set < 1 << now.guests.size(); set++) {
            int time = m;
            int worth = 0;
            boolean right = true;
            int seen = 0;
            for (int g : line) {
                if ((set >> g & 1) == 1) {
                    seen |= 1 << g;
                    time += 1 + now.guests.get(g).bag;
                    worth += now.guests.get(g).rank + 1;
                    right &= time <= ends.get(g);
                }
            }
            if (right && seen == set && worth > most) {
                most = worth;
                best = set;
            }
        }
        return what == 0 ? best : what == 1 ? most : here.size() - Integer.bitCount(best);
    }

    int horse(int weight) {
        if (!in(weight, 1, 999) || now.horses.size() == 7) {
            return -1;
        }
        now.horses.add(weight);
        return now.horses.size();
    }

    int doorsFor(int weight) {
        for (int d = 1; d <= 20; d++) {
            List<Tree> raft = clauses("raft");
            int bears = raft.isEmpty() ? 100 * d : between(raft.get(0).value(Map.of("doors", (long) d)), 0, 99999);
            if (bears >= weight) {
                return d;
            }
        }
        return 1000;
    }

    int share(int i, List<Integer> loads) {
        if (i == now.horses.size()) {
            int doors = 0;
            for (int load : loads) {
                doors += doorsFor(load);
            }
            return doors;
        }
        int best = 100000;
        for (int r = 0; r <= loads.size(); r++) {
            List<Integer> more = new ArrayList<>(loads);
            if (r == loads.size()) {
                more.add(0);
            }
            more.set(r, more.get(r) + now.horses.get(i));
            best = Math.min(best, share(i + 1, more));
        }
        return best;
    }

    int rafts() {
        int doors = share(0, new ArrayList<>());
        return doors >= 1000 ? -1 : doors;
    }

    int line(int minute, int guest, int perch) {
        if (!isMinute(minute) || !isGuest(guest) || !in(perch, -1, now.perches.size() - 1) || now.book.size() == 12) {
            return -1;
        }
        now.book.add(new int[] {minute, guest, perch});
        return now.book.size();
    }

    int there(int what) {
        if (!in(what, 0, 3)) {
            return -1;
        }
        List<Integer> sets = new ArrayList<>();
        for (int set = 0; set < 1 << now.guests.size(); set++) {
            List<Integer> list = new ArrayList<>();
            for (int g = 0; g < now.guests.size(); g++) {
                if ((set >> g & 1) == 1) {
                    list.add(g);
                }
            }
            boolean so = true;
            for (int[] line : now.book) {
                so = so && list.contains(line[1]) && seated(list, line[0]).get(line[1]) == line[2];
            }
            if (so) {
                sets.add(set);
            }
        }
        if (sets.isEmpty()) {
            return 0;
        }
        int all = sets.get(0);
        int some = 0;
        for (int set : sets) {
            all &= set;
            some |= set;
        }
        return new int[] {sets.size(), sets.get(0), all, some}[what];
    }

    int shift(int seed, int n) {
        if (!in(seed, 0, 9999) || !in(n, 1, 60)) {
            return -1;
        }
        long[] x = {seed * 7L + 3};
        java.util.function.IntUnaryOperator draw = m -> {
            long d = x[0] % m;
            x[0] = (x[0] * 143 + 41) % 30103;
            return (int) d;
        };
        for (int i = 0; i < n; i++) {
            int c = draw.applyAsInt(w * h);
            now.height[c] = between(now.height[c] + draw.applyAsInt(3) - 1, 0, 99);
        }
        return Arrays.stream(now.height).sum();
    }

    int image() {
        image = now.copy();
        return now.guests.size();
    }

    int back() {
        now = image.copy();
        return now.guests.size();
    }

    int about(int what) {
        int[] counts = {w, h, now.inn, now.wind, now.moon, now.perches.size(), now.guests.size(),
            now.texts.size(), now.text, now.horses.size(), now.book.size(), tape.length()};
        if (in(what, 0, 11)) {
            return counts[what];
        }
        if (in(what, 20, 20 + now.perches.size() - 1)) {
            return now.perches.get(what - 20)[0];
        }
        if (in(what, 30, 30 + now.perches.size() - 1)) {
            return now.perches.get(what - 30)[1];
        }
        if (what >= 40 && what < 70 && isGuest(what % 10)) {
            Guest g = now.guests.get(what % 10);
            return what < 50 ? g.rank : what < 60 ? g.crabs : g.here ? 1 : 0;
        }
        if (in(what, 100, 100 + w * h - 1)) {
            return now.height[what - 100];
        }
        if (in(what, 200, 200 + w * h - 1)) {
            return now.shore[what - 200] ? 1 : 0;
        }
        return -1000;
    }
}
