/** Random runs of calls, each answer held against the Oracle's. The same runs each time. */
public final class RandomRunsTest {
    private static int wrong = 0;
    private static int calls = 0;
    private static final int[] asked = new int[40];
    private static final int[] faults = new int[7];

    private long seed;
    private final int run;
    private final TideGuests x;
    private final Oracle o;
    private final int[] size;
    private final boolean heavy;

    private RandomRunsTest(int run) {
        this.run = run;
        seed = run * 7919L + 13;
        for (int i = 0; i < 5; i++) {
            pick(2);
        }
        heavy = pick(4) == 0;
        int w = pick(10) == 0 ? pick(12) - 2 : 2 + pick(heavy ? 5 : 3);
        int h = pick(10) == 0 ? pick(12) - 2 : 2 + pick(heavy ? 5 : 3);
        x = new TideGuests(w, h);
        o = new Oracle(w, h);
        size = new int[] {o.w, o.h};
    }

    private int pick(int n) {
        seed = (seed * 6364136223846793005L + 1442695040888963407L);
        return (int) Math.floorMod(seed >>> 33, (long) n);
    }

    /** Mostly from a to b, now and then a bit outside, seldom far outside. */
    private int about(int a, int b) {
        int kind = pick(40);
        if (kind == 0) {
            return a - 1 - pick(3);
        }
        if (kind == 1) {
            return b + 1 + pick(3);
        }
        if (kind == 2 && pick(4) == 0) {
            int[] far = {Integer.MIN_VALUE, Integer.MAX_VALUE, -1000000, 1000000, 65536, -32768};
            return far[pick(far.length)];
        }
        if (kind < 6) {
            return pick(2) == 0 ? a : b;
        }
        return a + pick(b - a + 1);
    }

    private int minute() {
        return pick(4) == 0 ? about(0, 1439) : pick(2) == 0 ? pick(200) : 200 + pick(300);
    }

    private int aGuest() {
        int n = o.now.guests.size();
        return n == 0 ? pick(3) - 1 : about(0, n - 1);
    }

    private int aPerch() {
        return pick(6) == 0 ? -1 : about(0, Math.max(0, o.now.perches.size() - 1));
    }

    private void due(int kind, String call, long got, long want) {
        calls++;
        asked[kind]++;
        if (got != want) {
            wrong++;
            if (wrong < 40) {
                System.out.println("run " + run + " (" + size[0] + " by " + size[1] + "): " + call
                    + " answered " + got + ", due is " + want);
            }
        }
    }

    private static long bit(boolean b) {
        return b ? 1 : 0;
    }

    // ---- texts

    private static final String[][] NAMES = {
        {"minute", "wind", "moon"},
        {"minute", "rank", "swim", "fear", "bag", "high", "level", "with"},
        {"rank", "bag", "wet", "moves", "crabs"},
        {"doors"},
        {"minute", "rank", "swim", "fear", "bag", "high", "level", "with"},
        {"minute", "rank", "fear", "other"}};
    private static final String[] CLAUSES = {"tide", "wish", "bill", "raft", "bars", "quarrel"};
    private static final String[] PIECES = {"(", ")", "-", "+", "*", "/", "not ", "and", "or", ";", "<", "<=", ">", ">=",
        "=", "#", "tide", "wish", "bill", "raft", "bars", "quarrel", "minute", "wind", "moon", "rank", "swim", "fear",
        "bag", "high", "level", "with", "other", "wet", "moves", "crabs", "doors", "Tide", "minutes", "x", "9999", "10000",
        "007", "123456789012345678901234567890", "0", "!", "\t", "\r", "{", "_", "\u00e9", "\u0000", "\n", "- - - - - - - - 1",
        "((((((((1))))))))", "(((((((((1)))))))))", "not not not not not not not not 1<2", "--------", "not(1)<2",
        "tide 1;", "bars 1<2;", "quarrel 1<2;"};

    private String one(int kind, int deep) {
        int r = pick(deep > 0 ? 9 : 6);
        String[] names = NAMES[kind];
        if (r < 3) {
            return names[pick(names.length)];
        }
        if (r < 5) {
            return "" + pick(pick(3) == 0 ? 10000 : 12);
        }
        if (r == 5) {
            return "-" + one(kind, deep - 1);
        }
        return "(" + sum(kind, deep - 1) + ")";
    }

    private String gap() {
        int r = pick(6);
        return r == 0 ? " " : r == 1 ? "\n" : "";
    }

    private String sum(int kind, int deep) {
        StringBuilder s = new StringBuilder(gap() + one(kind, deep));
        for (int i = pick(3); i > 0; i--) {
            s.append(gap()).append("+-*/".charAt(pick(4))).append(gap()).append(one(kind, deep - 1));
        }
        return s.append(gap()).toString();
    }

    private String either(int kind) {
        StringBuilder s = new StringBuilder();
        for (int i = pick(3); i >= 0; i--) {
            for (int n = pick(5) == 0 ? 1 + pick(3) : 0; n > 0; n--) {
                s.append("not ");
            }
            String[] signs = {"<", "<=", ">", ">=", "=", "#"};
            s.append(sum(kind, 1)).append(signs[pick(6)]).append(sum(kind, 1));
            if (i > 0) {
                s.append(pick(2) == 0 ? " and " : " or ");
            }
        }
        return s.toString();
    }

    /** A tide that goes up and down, so that more than the first minute counts. */
    private String tide() {
        switch (pick(4)) {
            case 0:
                return "tide minute/" + (5 + pick(30)) + "+wind*moon;";
            case 1:
                return "tide " + (30 + pick(60)) + "-minute/" + (3 + pick(20)) + "+moon;";
            case 2:
                return "tide (minute-" + pick(400) + ")*(minute-" + pick(400) + ")/" + (100 + pick(900)) + "-wind;";
            default:
                return "tide " + sum(0, 2) + ";";
        }
    }

    /** A clause by which much differs: who moves, who quarrels, who is barred, what it costs. */
    private String telling(int kind) {
        switch (kind) {
            case 1:
                return pick(2) == 0 ? "wish (minute-" + (200 + pick(300)) + ")*high+fear*with*" + pick(99) + ";"
                    : "wish (level-" + pick(60) + ")*(" + pick(60) + "-high)-with*rank*" + pick(40) + ";";
            case 2:
                return "bill wet*" + pick(9) + "+moves*" + (1 + pick(500)) + "+crabs*" + pick(3) + "+bag*rank;";
            case 3:
                return pick(2) == 0 ? "raft doors*doors*" + (1 + pick(60)) + ";" : "raft (doors-" + pick(9) + ")*" + pick(150) + ";";
            case 4:
                return pick(2) == 0 ? "bars high<level;" : "bars minute/" + (1 + pick(40)) + "=bag or with>rank/3 and swim=0;";
            default:
                return pick(2) == 0 ? "quarrel rank>other+" + pick(4) + ";" : "quarrel fear>" + pick(9) + " and other#rank;";
        }
    }

    /** About as many signs open around one another as may be. */
    private String deep(int kind) {
        int all = 6 + pick(4);
        int nots = kind < 4 ? 0 : pick(3);
        StringBuilder s = new StringBuilder();
        StringBuilder behind = new StringBuilder();
        for (int i = 0; i < all; i++) {
            if (i < nots) {
                s.append("not ");
            } else if (pick(2) == 0) {
                s.append('-');
            } else {
                s.append('(');
                if (pick(3) == 0) {
                    s.append("1+");
                }
                behind.append(pick(3) == 0 ? "*2)" : ")");
            }
        }
        s.append(NAMES[kind][0]).append(behind);
        if (pick(2) == 0) {
            s.append("--(1)");
        }
        return kind < 4 ? s.toString() : s + ">-(-(1))" + (pick(2) == 0 ? " and not 1<2" : "");
    }

    /** About as many clauses as there may be. */
    private String many() {
        StringBuilder s = new StringBuilder();
        boolean[] seen = new boolean[4];
        for (int i = 8 + pick(4); i > 0; i--) {
            int kind = pick(7) == 0 ? pick(4) : 4 + pick(2);
            if (kind < 4 && seen[kind] && pick(3) > 0) {
                kind = 4;
            }
            if (kind < 4) {
                seen[kind] = true;
            }
            s.append(CLAUSES[kind]).append(' ').append(NAMES[kind][pick(NAMES[kind].length)]);
            s.append(kind < 4 ? ";" : (pick(2) == 0 ? "<" : "=") + pick(9) + ";");
        }
        return s.append(pick(4) == 0 ? "." : "").toString();
    }

    private String newText() {
        StringBuilder s = new StringBuilder();
        if (pick(8) == 0) {
            return many();
        }
        if (pick(8) == 0) {
            int kind = pick(6);
            return CLAUSES[kind] + " " + deep(kind) + ";";
        }
        if (pick(12) == 0) {
            int kind = pick(6);
            return CLAUSES[kind] + " 00" + (9990 + pick(20)) + (kind < 4 ? ";" : "<1;");
        }
        boolean[] seen = new boolean[4];
        for (int i = pick(pick(6) == 0 ? 12 : 5); i > 0; i--) {
            int kind = pick(6);
            if (kind < 4 && seen[kind] && pick(5) > 0) {
                continue;
            }
            if (kind < 4) {
                seen[kind] = true;
            }
            if (kind == 0) {
                s.append(tide());
            } else if (pick(3) == 0) {
                s.append(telling(kind));
            } else {
                s.append(CLAUSES[kind]).append(' ').append(kind < 4 ? sum(kind, 2) : either(kind));
                s.append(';').append(gap());
            }
        }
        for (int i = pick(3) == 0 ? 1 + pick(2) : 0; i > 0; i--) {
            int from = pick(s.length() + 1);
            switch (pick(3)) {
                case 0:
                    s.insert(from, PIECES[pick(PIECES.length)]);
                    break;
                case 1:
                    s.delete(from, Math.min(s.length(), from + 1 + pick(4)));
                    break;
                default:
                    s.replace(from, Math.min(s.length(), from + 1 + pick(6)), " " + PIECES[pick(PIECES.length)] + " ");
            }
        }
        if (pick(25) == 0) {
            s.setLength(0);
            for (int i = pick(12); i > 0; i--) {
                s.append(PIECES[pick(PIECES.length)]).append(gap());
            }
        }
        return s.length() > 300 ? s.substring(0, 300) : s.toString();
    }

    private void feedText() {
        String s = newText();
        end(0);
        for (int i = 0; i < s.length(); i += 20) {
            int[] four = new int[5];
            for (int j = 0; j < 20; j++) {
                int sign = i + j < s.length() ? s.charAt(i + j) : pick(2) == 0 ? 32 : pick(256);
                four[j / 4] = four[j / 4] << 8 | sign & 255;
            }
            feed(four[0], four[1], four[2], four[3], four[4]);
        }
        end(s.length());
        due(0, "text() of \"" + s + "\"", x.text(), o.text());
        due(1, "fault(0) of \"" + s + "\"", x.fault(0), o.fault(0));
        due(1, "fault(1) of \"" + s + "\"", x.fault(1), o.fault(1));
        faults[o.faultKind]++;
        if (pick(4) > 0) {
            by(o.now.texts.size() - 1);
        }
    }

    private void feed(int a, int b, int c, int d, int e) {
        due(2, "feed(" + a + ", " + b + ", " + c + ", " + d + ", " + e + ")", x.feed(a, b, c, d, e), o.feed(a, b, c, d, e));
    }

    private void end(int n) {
        due(3, "end(" + n + ")", x.end(n), o.end(n));
    }

    private void by(int text) {
        due(4, "by(" + text + ")", bit(x.by(text)), bit(o.by(text)));
    }

    // ---- all the other calls

    private void cell() {
        int c = about(0, o.w * o.h - 1);
        int high = pick(3) == 0 ? about(0, 99) : pick(30);
        boolean shore = pick(5) == 0;
        due(5, "cell(" + c + ", " + high + ", " + shore + ")", bit(x.cell(c, high, shore)), bit(o.cell(c, high, shore)));
    }

    private void inn() {
        int c = about(0, o.w * o.h - 1);
        due(6, "inn(" + c + ")", bit(x.inn(c)), bit(o.inn(c)));
    }

    private void sky() {
        int wind = about(-9, 9);
        int moon = about(0, 9);
        due(7, "sky(" + wind + ", " + moon + ")", bit(x.sky(wind, moon)), bit(o.sky(wind, moon)));
    }

    private void perch() {
        int high = pick(3) == 0 ? about(0, 99) : pick(50);
        int room = about(1, 4);
        due(8, "perch(" + high + ", " + room + ")", x.perch(high, room), o.perch(high, room));
    }

    private void guest() {
        int rank = about(0, 9);
        int nose = about(0, 30);
        boolean swims = pick(2) == 0;
        int fear = about(0, 9);
        int bag = about(0, 9);
        int pace = about(1, 20);
        int wades = about(0, 30);
        due(9, "guest(" + rank + ", " + nose + ", " + swims + ", " + fear + ", " + bag + ", " + pace + ", " + wades + ")",
            x.guest(rank, nose, swims, fear, bag, pace, wades), o.guest(rank, nose, swims, fear, bag, pace, wades));
    }

    private void here() {
        int g = aGuest();
        int crabs = about(0, 99);
        boolean is = pick(3) > 0;
        due(10, "here(" + g + ", " + crabs + ", " + is + ")", bit(x.here(g, crabs, is)), bit(o.here(g, crabs, is)));
    }

    private void seating() {
        int m = minute();
        int g = aGuest();
        due(11, "seat(" + m + ", " + g + ")", x.seat(m, g), o.seat(m, g));
        due(12, "level(" + m + ")", x.level(m), o.level(m));
    }

    private void night() {
        int from = minute();
        int to = pick(8) == 0 ? minute() : from + pick(pick(6) == 0 ? 600 : 90);
        int every = about(1, 60);
        every = pick(4) == 0 ? 1 + pick(3) : every;
        due(13, "night(" + from + ", " + to + ", " + every + ")", x.night(from, to, every), o.night(from, to, every));
        for (int i = 0; i < 4; i++) {
            told();
        }
    }

    private void told() {
        int g = aGuest();
        int what = about(0, 4);
        int k = pick(3) == 0 ? about(0, 55) : pick(8);
        due(14, "told(" + g + ", " + what + ")", x.told(g, what), o.told(g, what));
        due(15, "sat(" + g + ", " + k + ")", x.sat(g, k), o.sat(g, k));
    }

    private void leave() {
        int g = aGuest();
        int m = minute();
        int k = about(-1, 4);
        due(16, "way(" + g + ", " + m + ", -1)", x.way(g, m, -1), o.way(g, m, -1));
        due(16, "way(" + g + ", " + m + ", " + k + ")", x.way(g, m, k), o.way(g, m, k));
        if (pick(3) == 0) {
            due(17, "last(" + g + ")", x.last(g), o.last(g));
        }
    }

    private void pilot() {
        int g = aGuest();
        int m = minute();
        int drunk = about(0, 3);
        int n = about(1, 10);
        due(18, "pilot(" + g + ", " + m + ", " + drunk + ", " + n + ")", x.pilot(g, m, drunk, n), o.pilot(g, m, drunk, n));
    }

    private void given() {
        int m = minute();
        int g = pick(3) == 0 ? -1 : aGuest();
        due(19, "given(" + m + ", " + g + ")", x.given(m, g), o.given(m, g));
    }

    private void hatch() {
        int m = minute();
        int what = about(0, 2);
        due(20, "hatch(" + m + ", " + what + ")", x.hatch(m, what), o.hatch(m, what));
    }

    private void rafts() {
        if (pick(2) == 0) {
            int weight = pick(3) == 0 ? about(1, 999) : 1 + pick(150);
            due(21, "horse(" + weight + ")", x.horse(weight), o.horse(weight));
        }
        due(22, "rafts()", x.rafts(), o.rafts());
    }

    private void line() {
        int m = minute();
        int g = aGuest();
        int p = aPerch();
        if (pick(3) > 0 && Oracle.isMinute(m) && o.isGuest(g) && o.now.guests.get(g).here) {
            p = o.seat(m, g);
        }
        due(23, "line(" + m + ", " + g + ", " + p + ")", x.line(m, g, p), o.line(m, g, p));
    }

    private void there() {
        int what = about(0, 3);
        due(24, "there(" + what + ")", x.there(what), o.there(what));
    }

    private void shift() {
        int from = about(0, 9999);
        int n = about(1, 60);
        due(25, "shift(" + from + ", " + n + ")", x.shift(from, n), o.shift(from, n));
    }

    private void askAbout() {
        int[] tens = {0, 10, 20, 30, 40, 50, 60, 70, 100, 110, 120, 130, 200, 210, 220, 230};
        int what = pick(30) == 0 ? about(-5, 300) : tens[pick(tens.length)] + pick(10);
        due(26, "about(" + what + ")", x.about(what), o.about(what));
    }

    private void goOn() {
        switch (pick(30)) {
            case 0: case 1: cell(); break;
            case 2: if (pick(3) == 0) { inn(); } break;
            case 3: sky(); break;
            case 4: case 5: perch(); break;
            case 6: if (pick(heavy ? 1 : 2) == 0) { guest(); } break;
            case 7: case 8: here(); break;
            case 9: feedText(); break;
            case 10: if (pick(2) == 0) { by(about(-1, Math.max(0, o.now.texts.size() - 1))); } break;
            case 11: case 12: case 13: seating(); break;
            case 14: night(); break;
            case 15: case 16: told(); break;
            case 17: case 18: leave(); break;
            case 19: pilot(); break;
            case 20: case 21: given(); break;
            case 22: case 23: hatch(); break;
            case 24: rafts(); break;
            case 25: if (pick(4) == 0) { line(); } break;
            case 26: if (pick(3) == 0) { there(); } break;
            case 27: if (pick(3) == 0) { shift(); } break;
            case 28:
                if (pick(2) == 0) {
                    due(27, "image()", x.image(), o.image());
                } else if (pick(3) == 0) {
                    due(28, "back()", x.back(), o.back());
                } else {
                    int n = pick(30) - 3;
                    feed(pick(1 << 30), pick(1 << 30) * 4, pick(1 << 30), pick(1 << 30), pick(1 << 30));
                    end(n);
                }
                break;
            default: askAbout(); break;
        }
    }

    private void go() {
        int before = calls;
        for (int i = pick(4); i > 0; i--) {
            cell();
            cell();
            perch();
            guest();
        }
        for (int i = 0; i < 1000 && calls - before < 490; i++) {
            goOn();
        }
    }

    public static void main(String[] args) {
        int from = args.length > 1 ? Integer.parseInt(args[1]) : 1;
        int to = args.length > 2 ? Integer.parseInt(args[2]) : 400;
        for (int run = from; run <= to; run++) {
            new RandomRunsTest(run).go();
        }
        StringBuilder s = new StringBuilder();
        for (int a : asked) {
            s.append(' ').append(a);
        }
        System.out.println(calls + " calls, by kind:" + s + "; faults " + java.util.Arrays.toString(faults));
        System.out.println(wrong == 0 ? "all answers are the oracle's" : wrong + " answers are not the oracle's");
        if (wrong != 0) {
            System.exit(1);
        }
    }
}
