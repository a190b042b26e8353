import java.lang.reflect.Field;
import java.lang.reflect.Modifier;

/** What the promises themselves say of an answer's edges, where the terms don't already. */
public final class AnswersBoundsTest {
    private static final int MIN = Sentences.MIN;
    private static final int MAX = Sentences.MAX;

    private static void newObject() throws ReflectiveOperationException {
        Sentences.sentence("`NONE = -1`: None, THE FLOOR.");
        Field none = TideGuests.class.getField("NONE");
        Sentences.due("NONE", none.getInt(null), -1);
        Sentences.due("NONE is a constant", Modifier.isStatic(none.getModifiers()) && Modifier.isFinal(none.getModifiers()), true);
        Sentences.sentence("W by H CELLS (2 to 6 each; others: the nearest of these); THE IMAGE is this.");
        int[] sizes = {MIN, -6, -1, 0, 1, 2, 3, 4, 5, 6, 7, 8, 64, MAX};
        for (int w : sizes) {
            for (int h : sizes) {
                int wide = w < 2 ? 2 : w > 6 ? 6 : w;
                int tall = h < 2 ? 2 : h > 6 ? 6 : h;
                TideGuests x = new TideGuests(w, h);
                String what = w + " by " + h + ": ";
                Sentences.due(what + "W", x.about(0), wide);
                Sentences.due(what + "H", x.about(1), tall);
                Sentences.due(what + "the last CELL", x.inn(wide * tall - 1), true);
                Sentences.due(what + "one more", x.inn(wide * tall), false);
                Sentences.due(what + "back() to it", x.back(), 0);
                Sentences.due(what + "THE INN", x.about(2), 0);
            }
        }
    }

    private static void tapes() {
        Sentences.sentence("Twenty bytes come behind the tape, the highest of a first: how many it has. NONE, and none come, if there would be more "
            + "than 300.");
        TideGuests x = new TideGuests(2, 2);
        for (int i = 1; i <= 15; i++) {
            Sentences.due("feed " + i, x.feed(MIN, MAX, -1, 0, i), 20 * i);
        }
        Sentences.due("320 bytes", x.feed(0, 0, 0, 0, 0), -1);
        Sentences.due("still", x.about(11), 300);
        for (int n = 299; n > 280; n--) {
            x.end(n);
            Sentences.due("feed behind " + n, x.feed(0, 0, 0, 0, 0), -1);
            Sentences.due("still", x.about(11), n);
        }
        x.end(280);
        Sentences.due("feed behind 280", x.feed(0, 0, 0, 0, 0), 300);
        int[] places = new int[20];
        for (int i = 0; i < 20; i++) {
            int[] a = {0x20202020, 0x20202020, 0x20202020, 0x20202020, 0x20202020};
            a[i / 4] = a[i / 4] & ~(255 << 24 - i % 4 * 8) | 0xE9 << 24 - i % 4 * 8;
            TideGuests y = new TideGuests(2, 2);
            y.feed(a[0], a[1], a[2], a[3], a[4]);
            y.text();
            places[i] = y.fault(1);
            Sentences.due("byte " + i + " of twenty", places[i], i);
        }
        Sentences.sentence("The tape has its first n bytes alone: n. NONE, and nothing is done, if it has not so many, or n is below 0.");
        TideGuests z = new TideGuests(2, 2);
        Sentences.due("end(0) of none", z.end(0), 0);
        Sentences.due("end(1) of none", z.end(1), -1);
        z.feed(0x74696465, 0x31323320, 0x3b202020, 0x20202020, 0x20202020);
        Sentences.due("end(21)", z.end(21), -1);
        Sentences.due("end(20)", z.end(20), 20);
        Sentences.due("end(5)", z.end(5), 5);
        Sentences.due("end(6), which it had", z.end(6), -1);
        Sentences.due("bytes", z.about(11), 5);
        z.feed(0x383b2020, 0x20202020, 0x20202020, 0x20202020, 0x20202020);
        Sentences.due("text()", z.text(), 0);
        z.by(0);
        Sentences.due("the first bytes alone", z.level(0), 18);
    }

    private static void seats() {
        Sentences.sentence("LEVEL of a MINUTE. NONE for others.");
        TideGuests x = Sentences.under(2, 2, "tide 7;");
        for (int m : new int[] {MIN, -1440, -1, 1440, 1441, MAX}) {
            Sentences.due("level(" + m + ")", x.level(m), -1);
        }
        Sentences.due("level(0)", x.level(0), 7);
        Sentences.due("level(1439)", x.level(1439), 7);
        Sentences.sentence("The PERCH of a GUEST who is HERE, those HERE being SEATED at a MINUTE (NONE: THE FLOOR). -2 for others, and if he isn't HERE.");
        Sentences.due("without GUESTS", x.seat(0, 0), -2);
        x.perch(5, 1);
        Sentences.plain(x, 1, 2, 3);
        x.here(2, 0, false);
        int[][] asked = {{0, 0, -1}, {0, 1, 0}, {0, 2, -2}, {0, 3, -2}, {0, 9, -2}, {0, 10, -2}, {0, -1, -2}, {0, MIN, -2}, {0, MAX, -2},
            {-1, 1, -2}, {1440, 1, -2}, {MIN, 1, -2}, {MAX, 1, -2}, {1439, 1, 0}, {1439, 0, -1}, {0, 32, -2}, {0, 33, -2}};
        for (int[] a : asked) {
            Sentences.due("seat(" + a[0] + ", " + a[1] + ")", x.seat(a[0], a[1]), a[2]);
        }
        nights(x);
    }

    /** Of three guests and a perch, the last guest not being here, under a tide of 7. */
    private static void nights(TideGuests x) {
        Sentences.sentence("Of the latest NIGHT (0 ahead of any): of a GUEST 0 WET, 1 UNDER, 2 MOVES, 3 BILL; QUARRELS (4, whichever GUEST). -2 for others.");
        int[] guests = {0, 1, 2, 3, 9, 10, -1, 32, MIN, MAX};
        for (int g : guests) {
            for (int what = 0; what < 5; what++) {
                Sentences.due("told(" + g + ", " + what + ") ahead of any", x.told(g, what), what == 4 || g >= 0 && g < 3 ? 0 : -2);
            }
        }
        Sentences.law(x, "tide 7;quarrel 1<2;bill 50;bars minute=3;");
        Sentences.due("BILL ahead of any", x.told(1, 3), 0);
        x.perch(4, 4);
        x.here(2, 0, true);
        x.night(0, 3, 1);
        int[] untold = {-2, -2, -2, -2};
        int[][] told = {{4, 4, 1, 50}, {4, 4, 1, 50}, {4, 4, 1, 50}};
        for (int g : guests) {
            Sentences.tolds("of " + g, x, g, g >= 0 && g < 3 ? told[g] : untold);
            Sentences.due("QUARRELS", x.told(g, 4), 3);
            for (int what : new int[] {-1, 5, 6, MIN, MAX}) {
                Sentences.due("told(" + g + ", " + what + ")", x.told(g, what), -2);
            }
        }
        Sentences.sentence("The PERCH of a GUEST at the k-th time (from 0) that they were SEATED in the latest NIGHT (NONE: THE FLOOR). -2 for others, behind "
            + "the 50th time, and who wasn't HERE.");
        Sentences.due("ahead of any", new TideGuests(2, 2).sat(0, 0), -2);
        int[][] sat = {{0, 0, 1}, {1, 0, 1}, {2, 0, 0}, {2, 3, -1}, {2, 4, -2}, {2, -1, -2}, {2, MIN, -2}, {2, MAX, -2}, {3, 0, -2}, {-1, 0, -2},
            {9, 0, -2}, {10, 0, -2}, {MIN, 0, -2}, {MAX, 0, -2}};
        for (int[] s : sat) {
            Sentences.due("sat(" + s[0] + ", " + s[1] + ")", x.sat(s[0], s[1]), s[2]);
        }
        x.here(0, 0, false);
        int[][] lengths = {{0, 48, 49}, {0, 49, 50}, {0, 50, 51}, {0, 1439, 1440}};
        for (int[] n : lengths) {
            x.night(n[0], n[1], 1);
            for (int k : new int[] {0, 1, 47, 48, 49, 50, 51, 1439, 1440}) {
                int want = k >= n[2] || k >= 50 ? -2 : k == 3 ? -1 : 0;
                Sentences.due("sat(2, " + k + ") of " + n[2], x.sat(2, k), want);
                Sentences.due("sat(0, " + k + ") of who wasn't HERE", x.sat(0, k), -2);
            }
        }
        x.night(3, 3, 60);
        Sentences.due("sat(2, 0) of one", x.sat(2, 0), -1);
        Sentences.due("sat(2, 1) of one", x.sat(2, 1), -2);
        TideGuests none = new TideGuests(2, 2);
        none.night(0, 9, 1);
        Sentences.plain(none, 0);
        Sentences.due("who was told behind it", none.sat(0, 0), -2);
    }

    private static void ways() {
        Sentences.sentence("WAY of a GUEST at m: how many steps (k NONE), the k-th CELL (from 0, THE INN's not among them). NONE: there is none, none such, "
            + "and for others.");
        TideGuests x = new TideGuests(6, 6);
        x.cell(35, 0, true);
        Sentences.due("way of nobody", x.way(0, 0, -1), -1);
        Sentences.due("last of nobody", x.last(0), -1);
        Sentences.due("pilot of nobody", x.pilot(0, 0, 0, 1), -1);
        x.guest(0, 0, false, 0, 0, 1, 30);
        int[] cells = {1, 2, 3, 4, 5, 11, 17, 23, 29, 35};
        Sentences.due("steps", x.way(0, 0, -1), 10);
        for (int k = 0; k < 10; k++) {
            Sentences.due("step " + k, x.way(0, 0, k), cells[k]);
        }
        int[][] others = {{0, 0, 10}, {0, 0, 36}, {0, 0, 37}, {0, 0, -2}, {0, 0, MIN}, {0, 0, MAX}, {0, -1, -1}, {0, 1440, -1}, {0, MIN, -1},
            {0, MAX, -1}, {1, 0, -1}, {-1, 0, -1}, {10, 0, -1}, {MIN, 0, 0}, {MAX, 0, 0}, {0, 300, -1}, {0, 300, 0}};
        for (int[] o : others) {
            Sentences.due("way(" + o[0] + ", " + o[1] + ", " + o[2] + ")", x.way(o[0], o[1], o[2]), -1);
        }
        Sentences.sentence("LAST. NONE: never, and for others.");
        Sentences.due("last(0)", x.last(0), 1429);
        for (int g : new int[] {1, -1, 9, 10, MIN, MAX}) {
            Sentences.due("last(" + g + ")", x.last(g), -1);
        }
        Sentences.law(x, "tide 31;");
        Sentences.due("never", x.last(0), -1);
        Sentences.law(x, "tide 30;");
        Sentences.due("always", x.last(0), 1429);
        Sentences.sentence("A PILOT. NONE for others.");
        int[][] pilots = {{0, 0, 0, 10, 1000}, {0, 0, 0, 9, 0}, {0, 1429, 0, 10, 1000}, {0, 1430, 0, 10, 0}, {0, 1439, 3, 1, 0}, {0, 1440, 0, 1, -1},
            {0, -1, 0, 1, -1}, {0, 0, -1, 1, -1}, {0, 0, 4, 1, -1}, {0, 0, 0, 0, -1}, {0, 0, 0, 11, -1}, {0, 0, 0, -1, -1}, {1, 0, 0, 1, -1},
            {-1, 0, 0, 1, -1}, {MIN, 0, 0, 1, -1}, {0, MIN, 0, 1, -1}, {0, 0, MIN, 1, -1}, {0, 0, 0, MIN, -1}, {MAX, 0, 0, 1, -1},
            {0, MAX, 0, 1, -1}, {0, 0, MAX, 1, -1}, {0, 0, 0, MAX, -1}};
        for (int[] p : pilots) {
            Sentences.due("pilot(" + p[0] + ", " + p[1] + ", " + p[2] + ", " + p[3] + ")", x.pilot(p[0], p[1], p[2], p[3]), p[4]);
        }
    }

    private static void givenAndHatch() {
        Sentences.sentence("GIVEN: what RANK + 1 is WET, all together (guest NONE); else his PERCH (8: THE FLOOR). NONE: more than 5 are HERE, he isn't HERE, "
            + "and for others.");
        TideGuests x = Sentences.under(2, 2, "tide 9;");
        Sentences.due("nobody", x.given(0, -1), 0);
        Sentences.due("of nobody", x.given(0, 0), -1);
        x.perch(9, 1);
        Sentences.plain(x, 4, 2, 9);
        x.here(2, 0, false);
        int[][] asked = {{0, -1, 3}, {0, 0, 0}, {0, 1, 8}, {0, 2, -1}, {0, 3, -1}, {0, 8, -1}, {0, 10, -1}, {0, -2, -1}, {0, MIN, -1}, {0, MAX, -1},
            {-1, -1, -1}, {1440, -1, -1}, {-1, 0, -1}, {1440, 0, -1}, {MIN, 0, -1}, {MAX, -1, -1}, {1439, -1, 3}, {1439, 1, 8}};
        for (int[] a : asked) {
            Sentences.due("given(" + a[0] + ", " + a[1] + ")", x.given(a[0], a[1]), a[2]);
        }
        Sentences.plain(x, 0, 0, 0);
        Sentences.due("five HERE", x.given(0, -1), 3 + 3);
        x.here(2, 0, true);
        Sentences.due("six HERE", x.given(0, -1), -1);
        Sentences.due("six HERE, one of them", x.given(0, 5), -1);
        Sentences.sentence("THE HATCH: 0 SAVED (bits), 1 what that is, 2 how many drown. NONE for others.");
        int[][] hatches = {{0, 0, 0}, {0, 1, 0}, {0, 2, 5}, {0, 3, -1}, {0, -1, -1}, {0, MIN, -1}, {0, MAX, -1}, {-1, 0, -1}, {1440, 0, -1}, {MIN, 1, -1},
            {MAX, 2, -1}, {1439, 0, 4}, {1439, 1, 10}, {1439, 2, 5}};
        for (int[] h : hatches) {
            boolean first = h[0] == 0 && h[1] >= 0 && h[1] < 3;
            int want = first ? new int[] {4, 10, 5}[h[1]] : h[2];
            Sentences.due("hatch(" + h[0] + ", " + h[1] + ")", x.hatch(h[0], h[1]), want);
        }
        Sentences.sentence("RAFTS: the fewest DOORS (0 without HORSES). NONE: none.");
        Sentences.due("without HORSES", x.rafts(), 0);
        x.horse(999);
        Sentences.due("ten", x.rafts(), 10);
        Sentences.law(x, "raft doors*49;");
        Sentences.due("none", x.rafts(), -1);
        Sentences.law(x, "raft doors*50;");
        Sentences.due("twenty", x.rafts(), 20);
    }

    private static void thereAndBack() {
        Sentences.sentence("THERE: 0 how many sets, 1 the lowest, 2 who is in all, 3 who in some (bits; 0, if there is none). NONE for others.");
        TideGuests x = new TideGuests(2, 2);
        Sentences.plain(x, 0, 1);
        x.line(5, 1, -1);
        int[] one = {2, 2, 2, 3};
        int[] none = {0, 0, 0, 0};
        for (int what = 0; what < 4; what++) {
            Sentences.due("there(" + what + ")", x.there(what), one[what]);
        }
        x.perch(1, 1);
        for (int what = 0; what < 4; what++) {
            Sentences.due("there(" + what + "), if there is none", x.there(what), none[what]);
        }
        for (int what : new int[] {-1, 4, MIN, MAX}) {
            Sentences.due("there(" + what + ")", x.there(what), -1);
        }
        Sentences.sentence("THE IMAGE is as all is now: how many GUESTS there are.");
        TideGuests y = new TideGuests(2, 2);
        Sentences.due("image() of nobody", y.image(), 0);
        for (int g = 1; g <= 10; g++) {
            Sentences.plain(y, g % 10);
            Sentences.due("image() of " + g, y.image(), g);
        }
        y.here(0, 0, false);
        Sentences.due("also who isn't HERE", y.image(), 10);
        Sentences.sentence("All is as at THE IMAGE again (it stays): how many GUESTS there are.");
        TideGuests z = new TideGuests(2, 2);
        Sentences.plain(z, 1, 2);
        z.here(1, 44, false);
        z.image();
        Sentences.plain(z, 3);
        z.here(1, 0, true);
        Sentences.due("back()", z.back(), 2);
        Sentences.due("not HERE then", z.about(61), 0);
        Sentences.due("CRABS then", z.about(51), 44);
        Sentences.due("the third is gone", z.about(42), -1000);
        z.guest(7, 0, false, 0, 0, 1, 0);
        Sentences.due("another third", z.about(42), 7);
        Sentences.due("HERE, as he is new", z.about(62), 1);
        Sentences.due("back() again", z.back(), 2);
    }

    private static void about() {
        Sentences.sentence("0 W, 1 H, 2 THE INN's CELL, 3 WIND, 4 MOON, 5 PERCHES, 6 GUESTS, 7 TEXTS, 8 THE TEXT (NONE), 9 HORSES, 10 lines of THE BOOK, 11 "
            + "bytes of the tape, 20 + perch: HIGH, 30 + perch: ROOM, 40 + guest: RANK, 50 + guest: CRABS, 60 + guest: HERE (1, 0), 100 + cell: HEIGHT, "
            + "200 + cell: SHORE (1, 0). -1000 for others.");
        for (int told = 0; told <= 10; told++) {
            TideGuests x = new TideGuests(2 + told % 5, 2 + told / 2 % 5);
            int cells = (2 + told % 5) * (2 + told / 2 % 5);
            int perches = Math.min(8, told);
            int[] want = new int[320];
            java.util.Arrays.fill(want, -1000);
            int[] counts = {2 + told % 5, 2 + told / 2 % 5, cells - 1, told - 5, Math.min(9, told), perches, told, Math.min(6, told),
                Math.min(6, told) - 1, Math.min(7, told), told, 20 * told};
            System.arraycopy(counts, 0, want, 0, 12);
            x.inn(cells - 1);
            x.sky(told - 5, Math.min(9, told));
            for (int i = 0; i < told; i++) {
                x.perch(90 - i, 1 + i % 4);
                x.guest(9 - i, 0, false, 0, 0, 1, 0);
                x.here(i, 90 + i % 10, i % 2 == 0);
                x.horse(7);
                x.line(0, 0, -1);
                if (i < 8) {
                    want[20 + i] = 90 - i;
                    want[30 + i] = 1 + i % 4;
                }
                want[40 + i] = 9 - i;
                want[50 + i] = 90 + i;
                want[60 + i] = 1 - i % 2;
            }
            for (int i = 0; i < Math.min(6, told); i++) {
                Sentences.law(x, "");
            }
            for (int i = 0; i < told; i++) {
                x.feed(0, 0, 0, 0, 0);
            }
            for (int c = 0; c < cells; c++) {
                x.cell(c, c + told, c % 3 == 0);
                want[100 + c] = c + told;
                want[200 + c] = c % 3 == 0 ? 1 : 0;
            }
            for (int what = 0; what < 320; what++) {
                Sentences.due(told + " told: about(" + what + ")", x.about(what), want[what]);
            }
            for (int what : new int[] {-1, -2, -20, -100, MIN, MIN + 100, MIN + 200, MAX, MAX - 1, 1000}) {
                Sentences.due(told + " told: about(" + what + ")", x.about(what), -1000);
            }
        }
    }

    public static void main(String[] args) throws ReflectiveOperationException {
        newObject();
        tapes();
        seats();
        ways();
        givenAndHatch();
        thereAndBack();
        about();
        Sentences.finish();
    }
}
