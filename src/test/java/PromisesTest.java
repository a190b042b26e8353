/** Each promise of the document: ordinary calls, the edges that it names, and wrong calls. */
public final class PromisesTest {
    private static int wrong = 0;
    private static int asked = 0;
    private static int promise = 0;

    private static final int MIN = Integer.MIN_VALUE;
    private static final int MAX = Integer.MAX_VALUE;

    private static void due(String what, long got, long want) {
        asked++;
        if (got != want) {
            wrong++;
            System.out.println("promise " + promise + ": " + what + " answered " + got + ", due is " + want);
        }
    }

    private static void due(String what, boolean got, boolean want) {
        due(what, got ? 1 : 0, want ? 1 : 0);
    }

    /** Puts a text on the tape, which is empty then but for it. */
    private static void tape(TideGuests x, String s) {
        x.end(0);
        for (int i = 0; i < s.length(); i += 20) {
            int[] fours = new int[5];
            for (int j = 0; j < 20; j++) {
                fours[j / 4] = fours[j / 4] << 8 | (i + j < s.length() ? s.charAt(i + j) & 255 : 32);
            }
            x.feed(fours[0], fours[1], fours[2], fours[3], fours[4]);
        }
        x.end(s.length());
    }

    /** An object whose text is told and holds. */
    private static TideGuests under(int w, int h, String text) {
        TideGuests x = new TideGuests(w, h);
        law(x, text);
        return x;
    }

    private static void law(TideGuests x, String text) {
        tape(x, text);
        int number = x.text();
        if (number < 0 || !x.by(number)) {
            due("text of \"" + text + "\"", number, 0);
        }
    }

    private static int plain(TideGuests x, int rank) {
        return x.guest(rank, 0, false, 0, 0, 1, 0);
    }

    private static void aNewObject() {
        int[][] sizes = {{2, 6, 2, 6}, {6, 2, 6, 2}, {1, 7, 2, 6}, {7, 1, 6, 2}, {0, -1, 2, 2}, {MIN, MAX, 2, 6},
            {MAX, MIN, 6, 2}, {3, 5, 3, 5}};
        for (int[] s : sizes) {
            TideGuests x = new TideGuests(s[0], s[1]);
            due("about(0) of " + s[0] + " by " + s[1], x.about(0), s[2]);
            due("about(1) of " + s[0] + " by " + s[1], x.about(1), s[3]);
            due("the last cell", x.about(100 + s[2] * s[3] - 1), 0);
            due("the cell behind it", x.about(100 + s[2] * s[3]), -1000);
        }
        TideGuests x = new TideGuests(3, 2);
        int[] fresh = {3, 2, 0, 0, 0, 0, 0, 0, -1, 0, 0, 0};
        for (int i = 0; i < fresh.length; i++) {
            due("about(" + i + ") at first", x.about(i), fresh[i]);
        }
        due("the fault at first", x.fault(0), -1);
        due("quarrels at first", x.told(0, 4), 0);
        plain(x, 1);
        x.perch(3, 1);
        x.cell(1, 5, true);
        x.inn(2);
        x.sky(3, 4);
        x.horse(5);
        x.line(1, 0, 0);
        due("back() to the new object", x.back(), 0);
        for (int i = 0; i < fresh.length; i++) {
            due("about(" + i + ") behind back()", x.about(i), fresh[i]);
        }
        due("HEIGHT behind back()", x.about(101), 0);
        due("SHORE behind back()", x.about(201), 0);
    }

    private static void cell() {
        TideGuests x = new TideGuests(3, 2);
        due("cell(5, 99, true)", x.cell(5, 99, true), true);
        due("HEIGHT 99", x.about(105), 99);
        due("SHORE", x.about(205), 1);
        due("cell(5, 0, false)", x.cell(5, 0, false), true);
        due("HEIGHT 0", x.about(105), 0);
        due("no SHORE", x.about(205), 0);
        x.cell(5, 7, true);
        int[][] others = {{-1, 5}, {6, 5}, {5, -1}, {5, 100}, {MIN, 5}, {MAX, 5}, {5, MIN}, {5, MAX}, {64 + 5, 5}};
        for (int[] o : others) {
            due("cell(" + o[0] + ", " + o[1] + ", false)", x.cell(o[0], o[1], false), false);
        }
        due("HEIGHT stays", x.about(105), 7);
        due("SHORE stays", x.about(205), 1);
        due("others stay", x.about(104), 0);
        TideGuests big = new TideGuests(6, 6);
        due("cell(35, 1, true)", big.cell(35, 1, true), true);
        due("SHORE of 35", big.about(235), 1);
        due("SHORE of 3", big.about(203), 0);
        due("cell(36, 1, true)", big.cell(36, 1, true), false);
    }

    private static void inn() {
        TideGuests x = new TideGuests(3, 2);
        due("inn(5)", x.inn(5), true);
        due("about(2)", x.about(2), 5);
        for (int c : new int[] {-1, 6, MIN, MAX}) {
            due("inn(" + c + ")", x.inn(c), false);
        }
        due("it stays", x.about(2), 5);
        due("inn(0)", x.inn(0), true);
        due("about(2)", x.about(2), 0);
    }

    private static void sky() {
        TideGuests x = new TideGuests(2, 2);
        due("sky(-9, 9)", x.sky(-9, 9), true);
        due("WIND", x.about(3), -9);
        due("MOON", x.about(4), 9);
        int[][] others = {{-10, 1}, {10, 1}, {1, -1}, {1, 10}, {MIN, 1}, {1, MAX}};
        for (int[] o : others) {
            due("sky(" + o[0] + ", " + o[1] + ")", x.sky(o[0], o[1]), false);
        }
        due("WIND stays", x.about(3), -9);
        due("MOON stays", x.about(4), 9);
        due("sky(9, 0)", x.sky(9, 0), true);
        due("WIND", x.about(3), 9);
        due("MOON", x.about(4), 0);
    }

    private static void perch() {
        TideGuests x = new TideGuests(2, 2);
        int[][] others = {{-1, 1}, {100, 1}, {1, 0}, {1, 5}, {MIN, 1}, {1, MAX}};
        for (int[] o : others) {
            due("perch(" + o[0] + ", " + o[1] + ")", x.perch(o[0], o[1]), -1);
        }
        due("PERCHES", x.about(5), 0);
        for (int i = 0; i < 8; i++) {
            due("perch " + i, x.perch(i == 0 ? 0 : i == 7 ? 99 : 10 + i, 1 + i % 4), i);
        }
        due("the ninth", x.perch(1, 1), -1);
        due("PERCHES", x.about(5), 8);
        due("HIGH of 0", x.about(20), 0);
        due("HIGH of 7", x.about(27), 99);
        due("HIGH of 3", x.about(23), 13);
        due("ROOM of 3", x.about(33), 4);
        due("ROOM of 4", x.about(34), 1);
    }

    private static void guest() {
        TideGuests x = new TideGuests(2, 2);
        int[][] bounds = {{0, 9}, {0, 30}, {0, 9}, {0, 9}, {1, 20}, {0, 30}};
        for (int i = 0; i < bounds.length; i++) {
            for (int bad : new int[] {bounds[i][0] - 1, bounds[i][1] + 1, MIN, MAX}) {
                int[] a = {3, 3, 3, 3, 3, 3};
                a[i] = bad;
                due("guest with " + bad + " as number " + i, x.guest(a[0], a[1], true, a[2], a[3], a[4], a[5]), -1);
            }
        }
        due("GUESTS", x.about(6), 0);
        due("the least", x.guest(0, 0, false, 0, 0, 1, 0), 0);
        due("the greatest", x.guest(9, 30, true, 9, 9, 20, 30), 1);
        for (int i = 2; i < 10; i++) {
            due("guest " + i, plain(x, i), i);
        }
        due("the eleventh", plain(x, 1), -1);
        due("GUESTS", x.about(6), 10);
        due("RANK of 1", x.about(41), 9);
        due("RANK of 9", x.about(49), 9);
        due("CRABS at first", x.about(51), 0);
        due("HERE at first", x.about(61), 1);
    }

    private static void here() {
        TideGuests x = new TideGuests(2, 2);
        due("of nobody", x.here(0, 1, true), false);
        plain(x, 1);
        plain(x, 2);
        due("here(1, 99, false)", x.here(1, 99, false), true);
        due("CRABS", x.about(51), 99);
        due("not HERE", x.about(61), 0);
        int[][] others = {{-1, 1}, {2, 1}, {1, -1}, {1, 100}, {MIN, 1}, {MAX, 1}, {1, MIN}, {1, MAX}};
        for (int[] o : others) {
            due("here(" + o[0] + ", " + o[1] + ", true)", x.here(o[0], o[1], true), false);
        }
        due("CRABS stay", x.about(51), 99);
        due("still not HERE", x.about(61), 0);
        due("the other one", x.about(60), 1);
        due("here(1, 0, true)", x.here(1, 0, true), true);
        due("CRABS", x.about(51), 0);
        due("HERE", x.about(61), 1);
    }

    private static void feed() {
        TideGuests x = new TideGuests(2, 2);
        due("tide 7 ;", x.feed(0x74696465, 0x20372020, 0x20203b20, 0x0a0a0a0a, 0x20202020), 20);
        due("text()", x.text(), 0);
        x.by(0);
        due("the highest of a first", x.level(0), 7);
        due("a byte above 127", x.feed(0x20202020, 0x20202020, 0x20202020, 0x20202020, 0x202020FF), 20);
        x.text();
        due("its fault", x.fault(0), 1);
        due("its place", x.fault(1), 19);
        due("the first byte", x.feed(0x80202020, 0, 0, 0, 0), 20);
        x.text();
        due("its place", x.fault(1), 0);
        for (int i = 1; i <= 15; i++) {
            due("feed " + i, x.feed(0, 0, 0, 0, 0), 20 * i);
        }
        due("the 16th", x.feed(1, 1, 1, 1, 1), -1);
        due("none come", x.about(11), 300);
        x.end(281);
        due("from 281", x.feed(1, 1, 1, 1, 1), -1);
        due("none come", x.about(11), 281);
        x.end(280);
        due("from 280", x.feed(1, 1, 1, 1, 1), 300);
    }

    private static void end() {
        TideGuests x = new TideGuests(2, 2);
        due("end(0) of none", x.end(0), 0);
        due("end(1) of none", x.end(1), -1);
        x.feed(0x74696465, 0x20313233, 0x3b202020, 0, 0);
        due("end(20)", x.end(20), 20);
        due("end(21)", x.end(21), -1);
        due("end(-1)", x.end(-1), -1);
        due("end(least)", x.end(MIN), -1);
        due("end(greatest)", x.end(MAX), -1);
        due("nothing done", x.about(11), 20);
        due("end(9)", x.end(9), 9);
        due("the first bytes alone", x.text(), 0);
        x.by(0);
        due("tide 123", x.level(5), 123);
        x.feed(0x74696465, 0x20313233, 0x3b202020, 0, 0);
        x.end(7);
        x.feed(0x393b2020, 0x20202020, 0x20202020, 0x20202020, 0x20202020);
        due("bytes behind those kept", x.text(), 1);
        x.by(1);
        due("tide 129", x.level(5), 129);
    }

    private static void text() {
        TideGuests x = new TideGuests(2, 2);
        due("an empty text", x.text(), 0);
        due("without fault", x.fault(0), 0);
        tape(x, "tide 1");
        due("a fault", x.text(), -1);
        due("the tape is empty", x.about(11), 0);
        due("TEXTS", x.about(7), 1);
        for (int i = 1; i < 6; i++) {
            tape(x, "tide " + i + "; wish high; bill wet; raft doors; bars 1<2; quarrel 1<2;");
            due("text " + i, x.text(), i);
            due("empty then", x.about(11), 0);
        }
        tape(x, "tide 1");
        due("the seventh", x.text(), -1);
        due("the tape stays", x.about(11), 6);
        due("not read: fault(0)", x.fault(0), 0);
        due("not read: fault(1)", x.fault(1), -1);
        due("TEXTS", x.about(7), 6);
        x.by(4);
        due("text 4 is its own", x.level(3), 4);
        x.by(1);
        due("text 1 is its own", x.level(3), 1);
    }

    private static void faulty(String text, int kind, int place) {
        TideGuests x = new TideGuests(2, 2);
        tape(x, text);
        int number = x.text();
        due("text() of \"" + text + "\"", number, kind == 0 ? 0 : -1);
        due("fault(0) of \"" + text + "\"", x.fault(0), kind);
        due("fault(1) of \"" + text + "\"", x.fault(1), place);
        due("fault(2)", x.fault(2), -1);
        due("fault(-1)", x.fault(-1), -1);
    }

    private static String times(String s, int n) {
        return s.repeat(n);
    }

    private static void fault() {
        TideGuests x = new TideGuests(2, 2);
        due("fault(0) ahead of any", x.fault(0), -1);
        due("fault(1) ahead of any", x.fault(1), -1);
        faulty("", 0, -1);
        faulty("  \n ", 0, -1);
        faulty("tide minute+wind*moon;wish minute+rank+swim+fear+bag+high+level+with;"
            + "bill rank+bag+wet+moves+crabs;raft doors;bars minute+rank+swim+fear+bag+high+level+with<1;"
            + "quarrel minute+rank+fear+other>1;", 0, -1);
        faulty("bars 1<2 and 1<=2 or 1>2 and not 1>=2 or not not 1=2 and 1#2;", 0, -1);
        cantStand();
        greatAndDeep();
        wordsAndNames();
        afterwards();
    }

    private static void cantStand() {
        faulty("tide", 1, 4);
        faulty("tide  ", 1, 6);
        faulty("tide ;", 1, 5);
        faulty("tide 1", 1, 6);
        faulty("tide 1;;", 1, 7);
        faulty("tide 1 2;", 1, 7);
        faulty("tide 1 10000;", 1, 7);
        faulty("tide 1 wind;", 1, 7);
        faulty("tide 1 rank;", 1, 7);
        faulty("tide 1<2;", 1, 6);
        faulty("tide not 1;", 1, 5);
        faulty("tide (1;", 1, 7);
        faulty("tide 1);", 1, 6);
        faulty("tide +1;", 1, 5);
        faulty("tide 1+;", 1, 7);
        faulty("tide tide;", 1, 5);
        faulty("tide foo;", 1, 5);
        faulty("tide Minute;", 1, 5);
        faulty("tide minutes;", 1, 5);
        faulty("Tide 1;", 1, 0);
        faulty("minute 1;", 1, 0);
        faulty("1", 1, 0);
        faulty(";", 1, 0);
        faulty("tide 1!;", 1, 6);
        faulty("tide\t1;", 1, 4);
        faulty("tide 1\r;", 1, 6);
        faulty("tide 1\u00ff;", 1, 6);
        faulty("tide 1\u0000;", 1, 6);
        faulty("tide1;", 0, -1);
        faulty("tide 1wind;", 1, 6);
        faulty("bars 1;", 1, 6);
        faulty("bars 1<;", 1, 7);
        faulty("bars 1<2<3;", 1, 8);
        faulty("bars 1< =2;", 1, 8);
        faulty("bars 1=>2;", 1, 7);
        faulty("bars (1<2);", 1, 7);
        faulty("bars 1<2 and;", 1, 12);
        faulty("bars or 1<2;", 1, 5);
        faulty("bars 1<2 not 1<2;", 1, 9);
        faulty("bars 1<not 2;", 1, 7);
        faulty("quarrel 1<2 tide 1;", 1, 12);
    }

    private static void greatAndDeep() {
        faulty("tide 9999;", 0, -1);
        faulty("tide 10000;", 2, 5);
        faulty("tide 0009999;", 0, -1);
        faulty("tide 00010000;", 2, 5);
        faulty("tide 1+4294967297;", 2, 7);
        faulty("tide 99999999999999999999999999;", 2, 5);
        faulty("tide 10000+10001", 2, 5);
        faulty("10000", 1, 0);
        faulty("tide " + times("(", 8) + "1" + times(")", 8) + ";", 0, -1);
        faulty("tide " + times("(", 9) + "1" + times(")", 9) + ";", 3, 13);
        faulty("tide " + times("-", 8) + "1;", 0, -1);
        faulty("tide " + times("-", 9) + "1;", 3, 13);
        faulty("tide 1" + times("-1", 12) + ";", 0, -1);
        faulty("tide 1-" + times("-", 8) + "1;", 0, -1);
        faulty("tide 1-" + times("-", 9) + "1;", 3, 15);
        faulty("tide " + times("-(", 4) + "1" + times(")", 4) + "+" + times("-(", 4) + "1" + times(")", 4) + ";", 0, -1);
        faulty("tide " + times("-(", 4) + "-1" + times(")", 4) + ";", 3, 13);
        faulty("bars " + times("not ", 8) + "1<2;", 0, -1);
        faulty("bars " + times("not ", 9) + "1<2;", 3, 37);
        faulty("bars " + times("not ", 8) + "1<2 and " + times("not ", 8) + "1<2;", 0, -1);
        faulty("bars " + times("not ", 7) + "1<-2;", 0, -1);
        faulty("bars " + times("not ", 7) + "1<-(2);", 3, 36);
        faulty("bars " + times("not ", 7) + "(1)<(2);", 0, -1);
        faulty("bars " + times("not ", 8) + "1<(2);", 3, 39);
        faulty("tide -1*-1*-1*-1*-1*-1*-1*-1*-1*-1;", 0, -1);
        faulty("tide (-1)*" + times("(", 8) + "1" + times(")", 8) + ";", 0, -1);
    }

    private static void wordsAndNames() {
        for (String word : new String[] {"tide", "wish", "bill", "raft"}) {
            faulty(word + " 1;" + word + " 1;", 4, 7);
            faulty(word + " 1;bars 1<2;\n" + word, 4, 17);
        }
        faulty("bars 1<2;bars 1<2;quarrel 1<2;quarrel 1<2;", 0, -1);
        faulty(times("bars 1<2;", 10), 0, -1);
        faulty(times("bars 1<2;", 11), 6, 90);
        faulty(times("quarrel 1<2;", 10) + "\n tide", 6, 122);
        faulty("tide 1;" + times("bars 1<2;", 9) + "tide 1;", 4, 88);
        faulty(times("bars 1<2;", 10) + "foo", 1, 90);
        faulty(times("bars 1<2;", 10) + "1", 1, 90);
        String[] clauses = {"tide ", "wish ", "bill ", "raft ", "bars ", "quarrel "};
        String[] own = {" minute wind moon ", " minute rank swim fear bag high level with ", " rank bag wet moves crabs ",
            " doors ", " minute rank swim fear bag high level with ", " minute rank fear other "};
        String[] names = {"minute", "wind", "moon", "rank", "swim", "fear", "bag", "high", "level", "with", "other", "wet",
            "moves", "crabs", "doors"};
        for (int c = 0; c < clauses.length; c++) {
            for (String name : names) {
                boolean may = own[c].contains(" " + name + " ");
                faulty(clauses[c] + name + (c < 4 ? ";" : "<1;"), may ? 0 : 5, may ? -1 : clauses[c].length());
            }
        }
        faulty("tide 1+(2*rank) 10000", 5, 10);
    }

    private static void afterwards() {
        TideGuests x = new TideGuests(2, 2);
        tape(x, "tide 1;;");
        x.text();
        x.image();
        tape(x, "bill wind;");
        x.text();
        x.back();
        due("back() leaves fault(0)", x.fault(0), 5);
        due("back() leaves fault(1)", x.fault(1), 5);
        x.text();
        due("none behind a right text", x.fault(0), 0);
        due("no place behind a right text", x.fault(1), -1);
    }

    private static void by() {
        TideGuests x = new TideGuests(2, 2);
        due("by(0) without texts", x.by(0), false);
        due("by(NONE)", x.by(-1), true);
        tape(x, "tide 5;");
        x.text();
        tape(x, "tide 6;");
        x.text();
        due("told, not yet by", x.level(0), 0);
        due("by(1)", x.by(1), true);
        due("THE TEXT", x.about(8), 1);
        due("by it", x.level(0), 6);
        for (int t : new int[] {2, -2, MIN, MAX}) {
            due("by(" + t + ")", x.by(t), false);
        }
        due("it stays", x.about(8), 1);
        due("by(0)", x.by(0), true);
        due("by it", x.level(0), 5);
        due("by(NONE) again", x.by(-1), true);
        due("THE TEXT", x.about(8), -1);
        due("without", x.level(360), 90);
    }

    private static void reckons(String sum, int minute, int want) {
        due("tide " + sum + " at " + minute, under(2, 2, "tide " + sum + ";").level(minute), want);
    }

    private static void level() {
        TideGuests x = new TideGuests(2, 2);
        int[][] levels = {{0, 0}, {1, 1}, {3, 1}, {4, 1}, {5, 2}, {356, 89}, {357, 90}, {360, 90}, {363, 90}, {364, 89},
            {719, 1}, {720, 0}, {721, 1}, {1080, 90}, {1439, 1}, {-1, -1}, {1440, -1}, {MIN, -1}, {MAX, -1}};
        for (int[] l : levels) {
            due("level(" + l[0] + ")", x.level(l[0]), l[1]);
        }
        reckons("minute", 1439, 999);
        reckons("minute", 999, 999);
        reckons("5-minute", 9, 0);
        reckons("7-2-1", 0, 4);
        reckons("2+3*4", 0, 14);
        reckons("(2+3)*4", 0, 20);
        reckons("100/7/2", 0, 7);
        reckons("100/7*7", 0, 98);
        reckons("2*9/4", 0, 4);
        reckons("10-7/2", 0, 7);
        reckons("10+-7/2", 0, 7);
        reckons("10+(0-7)/2", 0, 7);
        reckons("10+7/-2", 0, 7);
        reckons("5/0+3", 0, 3);
        reckons("-5/(minute-4)+3", 4, 3);
        reckons("--5", 0, 5);
        reckons("-(2-9)", 0, 7);
        reckons("9999*9999-9999*100+20", 0, 120);
        reckons("0-9999*9999-9999*9999+9999*9999+7", 0, 7);
        reckons("9999*9999+9999*9999-9999*9999", 0, 0);
        reckons("-9999*9999+9999*100+107", 0, 7);
        reckons("9999*101/9999", 0, 100);
        reckons("minute*minute*minute*minute/9999", 1439, 100);
        TideGuests y = under(2, 2, "tide 500+wind*10+moon+minute;");
        due("at first", y.level(2), 502);
        y.sky(-9, 4);
        due("by wind and moon", y.level(2), 416);
        y.sky(-10, 4);
        due("no other sky", y.level(2), 416);
        y.sky(9, 0);
        due("by wind", y.level(2), 592);
    }

    private static void seat() {
        TideGuests x = new TideGuests(2, 2);
        due("nobody", x.seat(0, 0), -2);
        x.perch(10, 1);
        x.perch(20, 2);
        x.perch(20, 1);
        for (int rank : new int[] {3, 5, 3, 9, 0, 0}) {
            plain(x, rank);
        }
        int[] want = {2, 1, 0, 1, -1, -1};
        for (int g = 0; g < 6; g++) {
            due("seat(0, " + g + ")", x.seat(0, g), want[g]);
        }
        x.here(3, 0, false);
        int[] without = {1, 1, 2, -2, 0, -1};
        for (int g = 0; g < 6; g++) {
            due("seat(7, " + g + ") without 3", x.seat(7, g), without[g]);
        }
        int[][] others = {{-1, 0}, {1440, 0}, {0, -1}, {0, 6}, {MIN, 0}, {0, MAX}};
        for (int[] o : others) {
            due("seat(" + o[0] + ", " + o[1] + ")", x.seat(o[0], o[1]), -2);
        }
        due("seat(1439, 1)", x.seat(1439, 1), 1);
        seatByLaw();
    }

    private static void seatByLaw() {
        TideGuests x = under(2, 2, "wish 0-high-with*100+minute-minute;");
        x.perch(10, 2);
        x.perch(60, 2);
        plain(x, 1);
        plain(x, 1);
        plain(x, 1);
        due("the lower one first", x.seat(0, 0), 0);
        due("who sits there already", x.seat(0, 1), 1);
        due("a wish below 0", x.seat(0, 2), 0);
        law(x, "bars high<=level;bars rank=1 and with>0;");
        due("not barred", x.seat(0, 0), 1);
        due("one sits there", x.seat(0, 1), 0);
        due("barred from both", x.seat(0, 2), -1);
        due("the water at 12", x.seat(50, 1), -1);
        law(x, "tide minute;wish rank+swim*10+fear*100+bag*1000-high;bars minute>5 or level>4 and 1<2;");
        due("none barred at 4", x.seat(4, 0), 0);
        due("level 5", x.seat(5, 0), -1);
        TideGuests y = under(2, 2, "wish (swim*2-1)*high;");
        y.perch(10, 2);
        y.perch(60, 2);
        y.guest(9, 0, true, 5, 8, 1, 0);
        y.guest(0, 0, false, 3, 8, 1, 0);
        y.guest(0, 0, false, 5, 9, 1, 0);
        due("a swimmer up", y.seat(0, 0), 1);
        due("others down", y.seat(0, 1), 0);
        law(y, "wish (fear-4)*high;bars bag>8;");
        due("fear up", y.seat(0, 0), 1);
        due("no fear", y.seat(0, 1), 0);
        due("a bag too much", y.seat(0, 2), -1);
        law(y, "wish 9999*9999*high;");
        due("of like ones the lowest", y.seat(0, 0), 0);
        law(y, "wish 0-9999*9999;");
        due("the least wish is one", y.seat(0, 0), 0);
    }

    private static void night() {
        TideGuests x = new TideGuests(2, 2);
        due("nobody here", x.night(10, 20, 5), 3);
        plain(x, 1);
        int[][] nights = {{0, 0, 1, 1}, {0, 0, 60, 1}, {0, 59, 60, 1}, {0, 60, 60, 2}, {0, 61, 60, 2}, {0, 1439, 1, 1440},
            {1439, 1439, 1, 1}, {5, 4, 1, -1}, {-1, 4, 1, -1}, {0, 1440, 1, -1}, {0, 5, 0, -1}, {0, 5, 61, -1},
            {0, 5, MIN, -1}, {MIN, MAX, 1, -1}, {0, MAX, 60, -1}, {0, 5, -1, -1}};
        for (int[] n : nights) {
            due("night(" + n[0] + ", " + n[1] + ", " + n[2] + ")", x.night(n[0], n[1], n[2]), n[3]);
        }
        x.night(100, 110, 5);
        int wet = x.told(0, 0);
        x.night(100, 110, 0);
        due("a wrong night changes nothing", x.told(0, 0), wet);
        due("nor its places", x.sat(0, 2), -1);
    }

    private static void told() {
        TideGuests x = under(2, 2, "tide minute;wish (minute-10)*high;quarrel rank>other+2;quarrel fear=9 and minute<10;");
        x.perch(5, 4);
        x.perch(9, 4);
        x.guest(5, 3, false, 0, 0, 1, 0);
        x.guest(2, 0, false, 0, 0, 1, 0);
        x.guest(3, 0, false, 9, 0, 1, 0);
        x.guest(0, 0, false, 9, 0, 1, 0);
        x.here(3, 7, false);
        for (int what = 0; what < 5; what++) {
            due("told(0, " + what + ") ahead of any", x.told(0, what), 0);
        }
        x.night(0, 20, 5);
        // 0, 5, 10 on the lower perch, 15 and 20 on the higher; wet at 6..14 and 15..20, under with 3 more
        due("WET", x.told(0, 0), 15);
        due("UNDER", x.told(0, 1), 6 + 6);
        due("UNDER without a nose", x.told(1, 1), 15);
        due("MOVES", x.told(0, 2), 1);
        due("BILL", x.told(0, 3), 10);
        due("QUARRELS", x.told(0, 4), 5 + 2 * 2);
        due("QUARRELS, whichever", x.told(-7, 4), 9);
        for (int what = 0; what < 4; what++) {
            due("told(3, " + what + ") of who wasn't HERE", x.told(3, what), 0);
        }
        x.here(0, 20, false);
        due("of who was HERE", x.told(0, 0), 15);
        due("BILL with CRABS", x.told(0, 3), 30);
        x.here(3, 7, true);
        due("of who wasn't", x.told(3, 3), 0);
        int[][] others = {{4, 0}, {-1, 0}, {0, 5}, {0, -1}, {MIN, 1}, {MAX, 1}, {0, MAX}};
        for (int[] o : others) {
            due("told(" + o[0] + ", " + o[1] + ")", x.told(o[0], o[1]), -2);
        }
        plain(x, 1);
        due("of who came behind it", x.told(4, 0), 0);
        bills();
        floorIsPeace();
    }

    private static void bills() {
        TideGuests x = under(2, 2, "tide minute;bill rank*1000+bag*1000+wet*100+moves*10+crabs;");
        x.guest(7, 30, false, 0, 3, 1, 0);
        x.here(0, 4, true);
        x.night(0, 5, 1);
        due("a bill by law", x.told(0, 3), 7000 + 3000 + 500 + 4);
        due("none of MOVES in it", x.told(0, 2), 0);
        TideGuests y = under(2, 2, "bars minute/2*2=minute;bill moves*10+wet;");
        plain(y, 1);
        y.perch(50, 1);
        y.night(720, 723, 1);
        due("MOVES in it", y.told(0, 3), 3 * 10 + 1);
        y.image();
        y.night(720, 720, 1);
        due("none of that", y.told(0, 3), 0);
        y.back();
        due("MOVES are back", y.told(0, 2), 3);
        law(x, "tide 1;bill 9999*9999;");
        due("at most", x.told(0, 3), 999999);
        law(x, "tide 1;bill 0-crabs;");
        due("at least", x.told(0, 3), 0);
        law(x, "tide 1;");
        x.night(0, 59, 60);
        due("an hour", x.told(0, 3), 14);
        x.night(0, 60, 60);
        due("an hour and a minute", x.told(0, 3), 24);
        law(x, "tide 0;");
        x.night(0, 60, 60);
        due("dry", x.told(0, 3), 4);
    }

    private static void floorIsPeace() {
        TideGuests x = under(2, 2, "quarrel 1<2;");
        plain(x, 1);
        plain(x, 1);
        plain(x, 1);
        x.night(0, 9, 1);
        due("no QUARRELS on THE FLOOR", x.told(0, 4), 0);
        x.perch(1, 3);
        x.night(0, 9, 1);
        due("twos, once each time", x.told(0, 4), 30);
        law(x, "quarrel rank#other;");
        x.night(0, 9, 1);
        due("none is so", x.told(0, 4), 0);
        law(x, "");
        x.night(0, 9, 1);
        due("without the clause", x.told(0, 4), 0);
    }

    private static void sat() {
        TideGuests x = under(2, 2, "bars minute=49 or minute=50 or minute=3;");
        plain(x, 1);
        plain(x, 2);
        x.perch(5, 1);
        due("ahead of any", x.sat(1, 0), -2);
        x.here(0, 0, false);
        x.night(0, 100, 1);
        due("the first time", x.sat(1, 0), 0);
        due("the fourth", x.sat(1, 3), -1);
        due("the 50th", x.sat(1, 49), -1);
        due("the 49th", x.sat(1, 48), 0);
        due("the 51st", x.sat(1, 50), -2);
        due("MOVES go on behind it", x.told(1, 2), 4);
        due("who wasn't HERE", x.sat(0, 0), -2);
        x.here(0, 0, true);
        due("who is only now", x.sat(0, 0), -2);
        x.here(1, 0, false);
        due("who was", x.sat(1, 0), 0);
        int[][] others = {{-1, 0}, {2, 0}, {1, -1}, {1, MIN}, {1, MAX}, {MAX, 0}};
        for (int[] o : others) {
            due("sat(" + o[0] + ", " + o[1] + ")", x.sat(o[0], o[1]), -2);
        }
        x.night(0, 30, 10);
        due("the times of the latest", x.sat(0, 3), 0);
        due("behind them", x.sat(0, 4), -2);
    }

    private static TideGuests ebb() {
        TideGuests x = under(2, 2, "tide 10-minute;");
        x.cell(0, 20, false);
        x.cell(1, 0, true);
        x.cell(2, 20, false);
        x.guest(1, 0, false, 0, 0, 1, 0);
        return x;
    }

    private static void way() {
        TideGuests x = ebb();
        due("to and fro", x.way(0, 7, -1), 3);
        due("first", x.way(0, 7, 0), 2);
        due("then", x.way(0, 7, 1), 0);
        due("last", x.way(0, 7, 2), 1);
        due("behind it", x.way(0, 7, 3), -1);
        due("more than there are CELLS", x.way(0, 6, -1), -1);
        due("at once", x.way(0, 9, -1), 1);
        due("a step at 10", x.way(0, 9, 0), 1);
        int[][] others = {{1, 7, -1}, {-1, 7, -1}, {0, -1, -1}, {0, 1440, -1}, {0, 7, -2}, {0, 7, MIN}, {0, 7, MAX},
            {MIN, 7, 0}, {0, MAX, 0}};
        for (int[] o : others) {
            due("way(" + o[0] + ", " + o[1] + ", " + o[2] + ")", x.way(o[0], o[1], o[2]), -1);
        }
        x.inn(1);
        due("THE INN's CELL of SHORE, under water", x.way(0, 0, -1), 0);
        due("none of its steps", x.way(0, 0, 0), -1);
        due("at 1439", x.way(0, 1439, -1), 0);
        x.inn(0);
        x.here(0, 0, false);
        due("whether HERE or not", x.way(0, 9, -1), 1);
        lowestWay();
        farWay();
    }

    private static void farWay() {
        TideGuests x = under(6, 6, "tide 38-minute;");
        x.guest(1, 0, false, 0, 0, 1, 30);
        x.guest(1, 0, false, 0, 0, 1, 0);
        x.cell(0, 99, false);
        x.cell(1, 99, false);
        x.cell(2, 0, true);
        due("as many as there are CELLS", x.way(1, 2, -1), 36);
        due("the first of them", x.way(1, 2, 0), 1);
        due("the 34th", x.way(1, 2, 33), 0);
        due("the last of them", x.way(1, 2, 35), 2);
        due("none more", x.way(1, 2, 36), -1);
        due("more than there are", x.way(1, 1, -1), -1);
        due("much more", x.way(1, 0, -1), -1);
        x.cell(2, 99, true);
        law(x, "tide 129;");
        due("up to HEIGHT and WADES", x.way(0, 0, -1), 2);
        due("who doesn't wade", x.way(1, 0, -1), -1);
        law(x, "tide 130;");
        due("above them", x.way(0, 0, -1), -1);
    }

    private static void lowestWay() {
        TideGuests x = under(3, 3, "tide 10;");
        int[] heights = {0, 10, 10, 10, 10, 10, 10, 10, 10};
        for (int c = 0; c < 9; c++) {
            x.cell(c, heights[c], c == 8 || c == 2);
        }
        x.inn(0);
        x.guest(1, 0, false, 0, 0, 20, 0);
        due("the nearer SHORE", x.way(0, 0, -1), 2);
        due("first", x.way(0, 0, 0), 1);
        due("then", x.way(0, 0, 1), 2);
        x.cell(2, 9, true);
        due("a SHORE that he can't be in", x.way(0, 0, -1), 4);
        int[] cells = {1, 4, 5, 8};
        for (int k = 0; k < 4; k++) {
            due("step " + k, x.way(0, 0, k), cells[k]);
        }
        x.cell(5, 9, false);
        due("around", x.way(0, 0, 2), 7);
        x.cell(4, 9, false);
        due("the lowest that leads there", x.way(0, 0, 0), 3);
        x.guest(1, 0, false, 0, 0, 20, 1);
        due("who WADES", x.way(1, 0, -1), 2);
        due("to 1439", x.way(0, 1359, -1), 4);
        due("not behind it", x.way(0, 1360, -1), -1);
        x.inn(4);
        due("THE INN's CELL at m isn't asked", x.way(0, 0, -1), 2);
        x.inn(0);
        law(x, "tide 999;");
        due("too deep", x.way(0, 0, -1), -1);
    }

    private static void last() {
        TideGuests x = ebb();
        due("LAST", x.last(0), 1438);
        x.guest(1, 0, false, 0, 0, 20, 0);
        due("a slow one", x.last(1), 1419);
        for (int g : new int[] {2, -1, MIN, MAX}) {
            due("last(" + g + ")", x.last(g), -1);
        }
        x.inn(1);
        due("of SHORE", x.last(0), 1439);
        TideGuests y = under(2, 2, "tide minute;");
        y.guest(1, 0, false, 0, 0, 5, 3);
        due("without SHORE", y.last(0), -1);
        y.cell(1, 20, true);
        due("till the flood", y.last(0), 18);
        y.cell(1, 2, true);
        due("just at 0", y.last(0), 0);
        y.cell(1, 1, true);
        due("never", y.last(0), -1);
        y.cell(1, 99, true);
        y.here(0, 0, false);
        due("whether HERE or not", y.last(0), 97);
    }

    private static void pilot() {
        TideGuests x = under(2, 2, "tide 10;");
        x.guest(1, 0, false, 0, 0, 1, 0);
        for (int c = 0; c < 4; c++) {
            x.cell(c, 50, false);
        }
        due("without SHORE", x.pilot(0, 0, 0, 2), 0);
        x.cell(3, 50, true);
        due("one step", x.pilot(0, 0, 0, 1), 0);
        due("two", x.pilot(0, 0, 0, 2), 1000);
        due("who is there stays", x.pilot(0, 0, 0, 10), 1000);
        due("DRUNK 1", x.pilot(0, 0, 1, 2), (9 * 9 + 9) * 1000 / 144);
        due("DRUNK 2", x.pilot(0, 0, 2, 2), (6 * 6 + 2 * 6) * 1000 / 144);
        due("DRUNK 3", x.pilot(0, 0, 3, 2), (3 * 3 + 3 * 3) * 1000 / 144);
        // by DRUNK 3, two sides off the bank stay: 0 -> 6 stay, 3, 3; 1 and 2 -> 6 stay, 3 back, 3 ashore
        due("DRUNK 3, three steps", x.pilot(0, 0, 3, 3), (18 * 12 + (6 * 6 + 36 + 36 - 36) * 3) * 1000L / 1728);
        x.cell(2, 5, false);
        due("lost on the way", x.pilot(0, 0, 2, 2), 36 * 1000 / 144);
        x.cell(1, 5, false);
        due("whatever the water", x.pilot(0, 0, 0, 2), 0);
        x.cell(1, 50, false);
        due("to 1439", x.pilot(0, 1437, 0, 2), 1000);
        due("not behind it", x.pilot(0, 1438, 0, 2), 0);
        x.inn(3);
        due("in SHORE", x.pilot(0, 1439, 3, 10), 1000);
        int[][] others = {{1, 0, 0, 1}, {-1, 0, 0, 1}, {0, -1, 0, 1}, {0, 1440, 0, 1}, {0, 0, -1, 1}, {0, 0, 4, 1},
            {0, 0, 0, 0}, {0, 0, 0, 11}, {MIN, 0, 0, 1}, {0, MAX, 0, 1}, {0, 0, MIN, 1}, {0, 0, 0, MAX}};
        for (int[] o : others) {
            due("pilot(" + o[0] + ", " + o[1] + ", " + o[2] + ", " + o[3] + ")", x.pilot(o[0], o[1], o[2], o[3]), -1);
        }
    }

    private static void given() {
        TideGuests x = under(2, 2, "tide 10;bars 1<2;wish 0-high;");
        due("nobody", x.given(0, -1), 0);
        x.perch(5, 1);
        plain(x, 0);
        plain(x, 9);
        plain(x, 3);
        due("all are WET", x.given(0, -1), 15);
        due("the lowest PERCH", x.given(0, 0), 0);
        due("THE FLOOR", x.given(0, 1), 8);
        due("THE FLOOR has room for all", x.given(0, 2), 8);
        x.perch(10, 1);
        x.perch(20, 1);
        due("RANK + 1 of one", x.given(1439, -1), 1);
        due("the least", x.given(0, 0), 0);
        due("at the level is dry", x.given(0, 1), 1);
        due("the next", x.given(0, 2), 2);
        x.here(1, 0, false);
        due("he isn't HERE", x.given(0, 1), -1);
        due("none is WET", x.given(0, -1), 0);
        due("0 dry", x.given(0, 0), 1);
        due("2 dry", x.given(0, 2), 2);
        int[][] others = {{-1, -1}, {1440, -1}, {0, -2}, {0, 3}, {MIN, 0}, {0, MIN}, {0, MAX}};
        for (int[] o : others) {
            due("given(" + o[0] + ", " + o[1] + ")", x.given(o[0], o[1]), -1);
        }
        law(x, "tide 0;");
        due("no water, the lowest", x.given(0, 2), 1);
        x.here(1, 0, true);
        plain(x, 0);
        plain(x, 0);
        due("five, THE FLOOR dry", x.given(0, 4), 8);
        due("five", x.given(0, -1), 0);
        plain(x, 0);
        due("six", x.given(0, -1), -1);
        due("six, his", x.given(0, 0), -1);
    }

    private static void hatch() {
        TideGuests x = under(2, 2, "tide minute-100;");
        due("nobody", x.hatch(0, 0), 0);
        due("nobody drowns", x.hatch(0, 2), 0);
        x.guest(1, 30, false, 0, 9, 1, 0);
        x.guest(1, 20, false, 0, 9, 1, 0);
        x.guest(9, 10, false, 0, 9, 1, 0);
        due("all", x.hatch(100, 0), 7);
        due("by their END", x.hatch(101, 0), 7);
        due("all they are", x.hatch(101, 1), 14);
        due("none drowns", x.hatch(101, 2), 0);
        due("one minute late", x.hatch(102, 0), 3);
        due("what that is", x.hatch(102, 1), 4);
        due("one drowns", x.hatch(102, 2), 1);
        x.here(0, 0, false);
        due("those HERE", x.hatch(102, 0), 2);
        due("one drowns of two", x.hatch(102, 2), 1);
        x.here(0, 0, true);
        x.guest(9, 10, false, 0, 0, 1, 0);
        // 2 and 3 end at 111; from 101 the light one could go, but not with the heavy one ahead of him
        due("of like ones the lowest", x.hatch(101, 0), 7);
        due("the light one, when the heavy one is late", x.hatch(102, 0), 8 + 2 + 1);
        due("to 1440", x.hatch(1440, 0), -1);
        int[][] others = {{-1, 0}, {0, -1}, {0, 3}, {MIN, 0}, {0, MAX}};
        for (int[] o : others) {
            due("hatch(" + o[0] + ", " + o[1] + ")", x.hatch(o[0], o[1]), -1);
        }
        law(x, "tide 0;");
        due("1440 is an END", x.hatch(1438, 0), 8);
        due("the others drown", x.hatch(1438, 2), 3);
        due("a heavy one in time", x.hatch(1430, 0), 4);
        x.perch(99, 1);
        law(x, "tide minute;");
        due("on a PERCH", x.hatch(50, 0), 4);
        due("SEATED at m", x.hatch(50, 1), 10);
    }

    private static void horse() {
        TideGuests x = new TideGuests(2, 2);
        for (int weight : new int[] {0, 1000, -1, MIN, MAX}) {
            due("horse(" + weight + ")", x.horse(weight), -1);
        }
        for (int i = 1; i <= 7; i++) {
            due("horse " + i, x.horse(i == 1 ? 1 : 999), i);
        }
        due("the eighth", x.horse(1), -1);
        due("HORSES", x.about(9), 7);
    }

    private static void rafts() {
        TideGuests x = new TideGuests(2, 2);
        due("without HORSES", x.rafts(), 0);
        x.horse(100);
        due("a DOOR", x.rafts(), 1);
        x.horse(101);
        due("two more, or three in one", x.rafts(), 3);
        x.horse(99);
        due("together", x.rafts(), 3);
        law(x, "raft doors*doors*10;");
        due("in one", x.rafts(), 6);
        law(x, "raft 100;");
        due("101 is on none", x.rafts(), -1);
        law(x, "raft 120;");
        due("each on his own", x.rafts(), 3);
        law(x, "raft 0-doors*100;");
        due("none bears", x.rafts(), -1);
        law(x, "raft doors/20*300;");
        due("twenty bear all", x.rafts(), 20);
        law(x, "tide 1;");
        due("without the clause", x.rafts(), 3);
        x.by(-1);
        due("without THE TEXT", x.rafts(), 3);
        TideGuests z = under(2, 2, "raft doors/21*300;");
        z.horse(100);
        due("there are no more DOORS", z.rafts(), -1);
        law(z, "raft (3-doors)*(3-doors)*75;");
        z.horse(200);
        due("a small one bears more", z.rafts(), 1);
        TideGuests y = new TideGuests(2, 2);
        for (int weight : new int[] {999, 999, 999, 999, 101, 100, 99}) {
            y.horse(weight);
        }
        due("seven", y.rafts(), 43);
    }

    private static void line() {
        TideGuests x = new TideGuests(2, 2);
        due("without GUESTS", x.line(0, 0, -1), -1);
        plain(x, 1);
        due("without PERCHES", x.line(0, 0, 0), -1);
        x.perch(1, 1);
        int[][] others = {{-1, 0, 0}, {1440, 0, 0}, {0, -1, 0}, {0, 1, 0}, {0, 0, -2}, {0, 0, 1}, {MIN, 0, 0}, {0, MAX, 0},
            {0, 0, MIN}, {0, 0, MAX}};
        for (int[] o : others) {
            due("line(" + o[0] + ", " + o[1] + ", " + o[2] + ")", x.line(o[0], o[1], o[2]), -1);
        }
        due("lines", x.about(10), 0);
        x.here(0, 0, false);
        for (int i = 1; i <= 12; i++) {
            due("line " + i, x.line(i == 1 ? 0 : 1439, 0, i % 2 - 1), i);
        }
        due("the 13th", x.line(0, 0, 0), -1);
        due("lines", x.about(10), 12);
    }

    private static void sets(TideGuests x, int count, int lowest, int all, int some) {
        due("there(0)", x.there(0), count);
        due("there(1)", x.there(1), lowest);
        due("there(2)", x.there(2), all);
        due("there(3)", x.there(3), some);
    }

    private static void there() {
        TideGuests x = under(2, 2, "wish high*(500-minute);");
        sets(x, 1, 0, 0, 0);
        x.perch(10, 1);
        x.perch(20, 1);
        plain(x, 1);
        plain(x, 5);
        plain(x, 3);
        x.here(0, 0, false);
        sets(x, 8, 0, 0, 7);
        for (int what : new int[] {-1, 4, MIN, MAX}) {
            due("there(" + what + ")", x.there(what), -1);
        }
        x.line(0, 2, 0);
        sets(x, 2, 6, 6, 7);
        x.line(600, 2, 1);
        sets(x, 2, 6, 6, 7);
        x.line(600, 0, -1);
        sets(x, 1, 7, 7, 7);
        x.line(600, 0, 0);
        sets(x, 0, 0, 0, 0);
        TideGuests y = new TideGuests(2, 2);
        y.perch(1, 1);
        for (int i = 0; i < 10; i++) {
            plain(y, i == 4 ? 9 : 1);
        }
        sets(y, 1024, 0, 0, 1023);
        y.line(0, 6, 0);
        sets(y, 8, 64, 64, 0x3C0);
        y.line(5, 9, -1);
        sets(y, 4, 64 + 512, 64 + 512, 0x3C0);
    }

    private static void shift() {
        TideGuests x = new TideGuests(2, 2);
        due("shift(0, 1)", x.shift(0, 1), 1);
        due("its CELL", x.about(103), 1);
        x.back();
        due("shift(0, 2)", x.shift(0, 2), 1);
        due("shift(2, 1) at 0", x.shift(2, 1), 1);
        x.cell(1, 5, true);
        due("shift(2, 1) down", x.shift(2, 1), 5);
        due("its CELL", x.about(101), 4);
        due("SHORE stays", x.about(201), 1);
        x.cell(3, 99, false);
        due("shift(0, 1) at 99", x.shift(0, 1), 103);
        int[][] others = {{-1, 1}, {10000, 1}, {0, 0}, {0, 61}, {MIN, 1}, {MAX, 1}, {0, MIN}, {0, MAX}};
        for (int[] o : others) {
            due("shift(" + o[0] + ", " + o[1] + ")", x.shift(o[0], o[1]), -1);
        }
        due("nothing done", x.about(101), 4);
        due("the ends", x.shift(9999, 60) >= 0, true);
    }

    private static void imageAndBack() {
        TideGuests x = under(2, 2, "tide minute;");
        plain(x, 3);
        x.perch(7, 1);
        x.cell(1, 9, true);
        x.inn(1);
        x.sky(2, 2);
        x.here(0, 5, true);
        x.horse(5);
        x.line(9, 0, 0);
        x.night(0, 9, 1);
        due("image()", x.image(), 1);
        promise = 29;
        plain(x, 4);
        x.perch(9, 2);
        x.cell(1, 3, false);
        x.inn(2);
        x.sky(3, 3);
        x.here(0, 6, false);
        x.horse(6);
        x.line(8, 0, 0);
        law(x, "tide 50;");
        x.night(0, 19, 10);
        tape(x, "wish");
        due("back()", x.back(), 1);
        int[][] abouts = {{2, 1}, {3, 2}, {4, 2}, {5, 1}, {6, 1}, {7, 1}, {8, 0}, {9, 1}, {10, 1}, {11, 4}, {20, 7},
            {21, -1000}, {40, 3}, {41, -1000}, {50, 5}, {60, 1}, {101, 9}, {201, 1}};
        for (int[] a : abouts) {
            due("about(" + a[0] + ") behind back()", x.about(a[0]), a[1]);
        }
        due("the latest NIGHT", x.told(0, 0), 2);
        due("its times", x.sat(0, 9), 0);
        due("LEVEL", x.level(7), 7);
        due("TEXTS behind it are gone", x.by(1), false);
        tape(x, "tide 60;");
        due("their number is free", x.text(), 1);
        x.by(1);
        due("the new one", x.level(7), 60);
        due("back() again", x.back(), 1);
        due("THE IMAGE stays", x.level(7), 7);
        due("seated as then", x.seat(0, 0), 0);
        plain(x, 9);
        due("image() anew", x.image(), 2);
        plain(x, 9);
        due("back() to it", x.back(), 2);
        due("the order, too", x.seat(0, 1), 0);
        due("and its lowest", x.seat(0, 0), -1);
    }

    private static void about() {
        TideGuests x = new TideGuests(3, 2);
        plain(x, 4);
        x.perch(6, 3);
        x.here(0, 12, false);
        x.cell(5, 44, true);
        x.feed(0, 0, 0, 0, 0);
        int[][] abouts = {{0, 3}, {1, 2}, {5, 1}, {6, 1}, {11, 20}, {20, 6}, {30, 3}, {40, 4}, {50, 12}, {60, 0},
            {105, 44}, {205, 1}, {100, 0}, {200, 0}};
        for (int[] a : abouts) {
            due("about(" + a[0] + ")", x.about(a[0]), a[1]);
        }
        int[] others = {-1, 12, 19, 21, 27, 28, 29, 31, 37, 38, 39, 41, 49, 51, 59, 61, 69, 70, 99, 106, 135, 136, 199, 206,
            236, 300, -1000, MIN, MAX};
        for (int what : others) {
            due("about(" + what + ")", x.about(what), -1000);
        }
        due("NONE", TideGuests.NONE, -1);
    }

    public static void main(String[] args) {
        Runnable[] promises = {PromisesTest::aNewObject, PromisesTest::cell, PromisesTest::inn, PromisesTest::sky,
            PromisesTest::perch, PromisesTest::guest, PromisesTest::here, PromisesTest::feed, PromisesTest::end,
            PromisesTest::text, PromisesTest::fault, PromisesTest::by, PromisesTest::level, PromisesTest::seat,
            PromisesTest::night, PromisesTest::told, PromisesTest::sat, PromisesTest::way, PromisesTest::last,
            PromisesTest::pilot, PromisesTest::given, PromisesTest::hatch, PromisesTest::horse, PromisesTest::rafts,
            PromisesTest::line, PromisesTest::there, PromisesTest::shift, PromisesTest::imageAndBack, PromisesTest::about};
        for (int i = 0; i < promises.length; i++) {
            promise = i < 28 ? i + 1 : 30;
            promises[i].run();
        }
        System.out.println(asked + " answers, " + wrong + " of them not as due");
        if (wrong != 0) {
            System.exit(1);
        }
    }
}
