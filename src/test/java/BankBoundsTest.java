/** The edges that the document's first term names: the bank, the perches, the guests. */
public final class BankBoundsTest {
    private static void cells() {
        Sentences.sentence("W by H CELLS (c = x + W y, from 0)");
        for (int w = 2; w <= 6; w++) {
            for (int h = 2; h <= 6; h++) {
                for (int from = 0; from < w * h; from++) {
                    besides(w, h, from);
                }
            }
        }
        Sentences.sentence("each with HEIGHT (0 .. 99; at first 0), SHORE or not (at first not)");
        TideGuests x = new TideGuests(6, 6);
        for (int c = 0; c < 36; c++) {
            Sentences.due("HEIGHT of " + c + " at first", x.about(100 + c), 0);
            Sentences.due("SHORE of " + c + " at first", x.about(200 + c), 0);
        }
        for (int c = 0; c < 36; c++) {
            x.cell(c, c % 2 == 0 ? 99 : c, c % 3 == 0);
        }
        for (int c = 0; c < 36; c++) {
            Sentences.due("HEIGHT of " + c, x.about(100 + c), c % 2 == 0 ? 99 : c);
            Sentences.due("SHORE of " + c, x.about(200 + c), c % 3 == 0 ? 1 : 0);
        }
        Sentences.due("HEIGHT -1", x.cell(0, -1, true), false);
        Sentences.due("HEIGHT 0", x.cell(0, 0, true), true);
        Sentences.due("HEIGHT 99", x.cell(0, 99, true), true);
        Sentences.due("HEIGHT 100", x.cell(0, 100, true), false);
    }

    /** The steps from a cell to each other one: none leads over the bank's edge to its other side. */
    private static void besides(int w, int h, int from) {
        TideGuests x = new TideGuests(w, h);
        Sentences.plain(x, 0);
        for (int c = 0; c < w * h; c++) {
            x.cell(c, 99, false);
        }
        x.inn(from);
        for (int to = 0; to < w * h; to++) {
            int steps = Math.abs(to % w - from % w) + Math.abs(to / w - from / w);
            x.cell(to, 99, true);
            Sentences.due(w + " by " + h + ": steps from " + from + " to " + to, x.way(0, 0, Sentences.NONE), steps);
            String what = w + " by " + h + ": a pilot from " + from + " to " + to;
            if (steps > 0) {
                Sentences.due(what + ", sober", x.pilot(0, 0, 0, steps), 1000);
                Sentences.due(what + ", drunk", x.pilot(0, 0, 3, 1), steps == 1 ? 250 : 0);
            }
            if (steps > 1) {
                Sentences.due(what + ", a step less", x.pilot(0, 0, 0, steps - 1), 0);
            }
            x.cell(to, 99, false);
        }
    }

    private static void innAndSky() {
        Sentences.sentence("THE INN stands in a CELL (at first 0)");
        TideGuests x = new TideGuests(2, 3);
        Sentences.due("THE INN at first", x.about(2), 0);
        for (int c = 5; c >= 0; c--) {
            Sentences.due("inn(" + c + ")", x.inn(c), true);
            Sentences.due("THE INN's CELL", x.about(2), c);
        }
        Sentences.due("inn(-1)", x.inn(-1), false);
        Sentences.due("inn(6)", x.inn(6), false);
        Sentences.sentence("WIND (-9 .. 9; at first 0), MOON (0 .. 9; at first 0)");
        Sentences.due("WIND at first", x.about(3), 0);
        Sentences.due("MOON at first", x.about(4), 0);
        for (int wind = -11; wind <= 11; wind++) {
            boolean right = wind >= -9 && wind <= 9;
            Sentences.due("sky(" + wind + ", 0)", x.sky(wind, 0), right);
            Sentences.due("WIND behind " + wind, x.about(3), right ? wind : wind < 0 ? 0 : 9);
        }
        for (int moon = -2; moon <= 11; moon++) {
            Sentences.due("sky(1, " + moon + ")", x.sky(1, moon), moon >= 0 && moon <= 9);
            Sentences.due("MOON", x.about(4), Math.max(0, Math.min(9, moon)));
        }
        Sentences.due("a wrong MOON leaves the WIND", x.sky(5, 10), false);
        Sentences.due("WIND", x.about(3), 1);
        Sentences.due("a wrong WIND leaves the MOON", x.sky(10, 5), false);
        Sentences.due("MOON", x.about(4), 9);
    }

    private static void minutes() {
        Sentences.sentence("MINUTES 0 .. 1439");
        TideGuests x = new TideGuests(2, 2);
        Sentences.plain(x, 0);
        x.cell(0, 0, true);
        int[] all = {Sentences.MIN, -1440, -1, 0, 1439, 1440, 1441, 2880, Sentences.MAX};
        for (int m : all) {
            boolean is = m == 0 || m == 1439;
            Sentences.due("level(" + m + ")", x.level(m), m == 0 ? 0 : is ? 1 : -1);
            Sentences.due("seat(" + m + ", 0)", x.seat(m, 0), is ? -1 : -2);
            Sentences.due("night(" + m + ", 1439, 60)", x.night(m, 1439, 60), m == 0 ? 24 : is ? 1 : -1);
            Sentences.due("night(0, " + m + ", 60)", x.night(0, m, 60), m == 0 ? 1 : is ? 24 : -1);
            Sentences.due("way(0, " + m + ", -1)", x.way(0, m, -1), is ? 0 : -1);
            Sentences.due("pilot(0, " + m + ", 0, 1)", x.pilot(0, m, 0, 1), is ? 1000 : -1);
            Sentences.due("given(" + m + ", -1)", x.given(m, -1), m == 0 ? 0 : is ? 1 : -1);
            Sentences.due("given(" + m + ", 0)", x.given(m, 0), is ? 8 : -1);
            Sentences.due("hatch(" + m + ", 2)", x.hatch(m, 2), m == 0 ? 0 : is ? 1 : -1);
            Sentences.due("line(" + m + ", 0, -1)", x.line(m, 0, -1), m == 0 ? 1 : is ? 2 : -1);
        }
    }

    private static void perches() {
        Sentences.sentence("PERCHES 0 .. 7 (told one by one): HIGH (0 .. 99), ROOM (1 .. 4)");
        TideGuests x = new TideGuests(2, 2);
        int told = 0;
        int[][] perches = {{-1, 1}, {0, 1}, {99, 4}, {100, 4}, {50, 0}, {50, 5}, {7, 2}, {7, -1}, {8, 3}, {9, 1}, {10, 2},
            {11, 3}, {12, 4}};
        for (int[] p : perches) {
            boolean right = p[0] >= 0 && p[0] <= 99 && p[1] >= 1 && p[1] <= 4;
            Sentences.due("perch(" + p[0] + ", " + p[1] + ")", x.perch(p[0], p[1]), right ? told : -1);
            if (right) {
                Sentences.due("its HIGH", x.about(20 + told), p[0]);
                Sentences.due("its ROOM", x.about(30 + told), p[1]);
                told++;
            }
            Sentences.due("PERCHES", x.about(5), told);
        }
        Sentences.due("the ninth", x.perch(1, 1), -1);
        for (int room = 1; room <= 4; room++) {
            TideGuests y = new TideGuests(2, 2);
            y.perch(5, room);
            Sentences.plain(y, 0, 0, 0, 0, 0);
            for (int g = 0; g < 5; g++) {
                Sentences.due("guest " + g + " by a PERCH of ROOM " + room, y.seat(0, g), g < room ? 0 : -1);
            }
        }
        Sentences.sentence("THE FLOOR: HIGH 0, room for all");
        TideGuests z = Sentences.under(2, 2, "tide minute;");
        Sentences.plain(z, 0, 1, 2, 3, 4, 5, 6, 7, 8, 9);
        for (int g = 0; g < 10; g++) {
            Sentences.due("all ten", z.seat(0, g), -1);
        }
        z.night(0, 0, 1);
        Sentences.due("LEVEL 0 isn't above it", z.told(9, 0), 0);
        z.night(1, 1, 1);
        Sentences.due("LEVEL 1 is above it", z.told(0, 0), 1);
        Sentences.due("UNDER without a NOSE", z.told(9, 1), 1);
    }

    private static void guests() {
        Sentences.sentence("GUESTS 0 .. 9 (told one by one): RANK (0 .. 9), NOSE (0 .. 30), SWIMS or not, FEAR (0 .. 9), BAG "
            + "(0 .. 9), PACE (1 .. 20 MINUTES for a step), WADES (0 .. 30)");
        int[][] bounds = {{0, 9}, {0, 30}, {0, 9}, {0, 9}, {1, 20}, {0, 30}};
        for (int i = 0; i < bounds.length; i++) {
            for (int value = bounds[i][0] - 2; value <= bounds[i][1] + 2; value++) {
                TideGuests x = new TideGuests(2, 2);
                int[] a = {3, 4, 5, 6, 7, 8};
                a[i] = value;
                boolean right = value >= bounds[i][0] && value <= bounds[i][1];
                Sentences.due("guest with " + value + " as number " + i, x.guest(a[0], a[1], i == 1, a[2], a[3], a[4], a[5]),
                    right ? 0 : -1);
                Sentences.due("GUESTS", x.about(6), right ? 1 : 0);
            }
        }
        TideGuests x = new TideGuests(2, 2);
        for (int g = 0; g < 10; g++) {
            Sentences.due("guest " + g, Sentences.plain(x, 9 - g), g);
            Sentences.due("his RANK", x.about(40 + g), 9 - g);
        }
        Sentences.due("the eleventh", Sentences.plain(x, 0), -1);
        valuesAtTheirEnds();
        Sentences.sentence("CRABS (0 .. 99; at first 0); HERE or not (at first HERE)");
        for (int g = 0; g < 10; g++) {
            Sentences.due("CRABS at first", x.about(50 + g), 0);
            Sentences.due("HERE at first", x.about(60 + g), 1);
        }
        for (int crabs : new int[] {-1, 0, 99, 100}) {
            boolean right = crabs == 0 || crabs == 99;
            Sentences.due("here(9, " + crabs + ", false)", x.here(9, crabs, false), right);
            Sentences.due("CRABS", x.about(59), crabs > 0 ? 99 : 0);
        }
        Sentences.due("not HERE", x.about(69), 0);
        Sentences.due("the tenth of two", new TideGuests(2, 2).here(9, 0, true), false);
    }

    /** What a guest is told with is what he has, at both ends. */
    private static void valuesAtTheirEnds() {
        TideGuests x = Sentences.under(2, 2, "tide minute;wish high;bars 1>2;");
        x.guest(0, 0, false, 0, 0, 1, 0);
        x.guest(9, 30, true, 9, 9, 20, 30);
        x.night(1, 100, 60);
        Sentences.due("NOSE 0", x.told(0, 1), 100);
        Sentences.due("NOSE 30", x.told(1, 1), 70);
        x.cell(1, 50, true);
        Sentences.due("PACE 1, WADES 0", x.last(0), 49);
        Sentences.due("PACE 20, WADES 30", x.last(1), 60);
        x.perch(50, 1);
        Sentences.due("RANK 9 ahead of RANK 0", x.seat(0, 1), 0);
        String[] names = {"rank", "swim", "fear", "bag"};
        int[] most = {9, 1, 9, 9};
        for (int i = 0; i < names.length; i++) {
            TideGuests y = Sentences.under(2, 2, "bars " + names[i] + "=" + most[i] + ";");
            y.perch(50, 1);
            y.guest(0, 0, false, 0, 0, 1, 0);
            Sentences.due(names[i] + " 0", y.seat(0, 0), 0);
            y.guest(9, 30, true, 9, 9, 20, 30);
            Sentences.due(names[i] + " " + most[i], y.seat(0, 1), -1);
            Sentences.law(y, "bars " + names[i] + "=0;");
            y.here(1, 0, false);
            Sentences.due(names[i] + " 0 barred", y.seat(0, 0), -1);
        }
        TideGuests z = Sentences.under(2, 2, "tide minute-12;");
        z.guest(0, 0, false, 0, 0, 1, 0);
        z.guest(0, 0, false, 0, 9, 1, 0);
        Sentences.due("both, a MINUTE and ten", z.hatch(2, 0), 3);
        Sentences.due("BAG 0 needs a MINUTE", z.hatch(12, 0), 1);
        Sentences.due("and has none left", z.hatch(13, 0), 0);
        z.here(0, 0, false);
        Sentences.due("BAG 9 needs ten", z.hatch(3, 0), 2);
        Sentences.due("and has nine left", z.hatch(4, 0), 0);
    }

    public static void main(String[] args) {
        cells();
        innAndSky();
        minutes();
        perches();
        guests();
        Sentences.finish();
    }
}
