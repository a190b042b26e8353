/** The edges that the document's fifth term names: perches given, the hatch, rafts, the book, shifts, the image. */
public final class RescueBoundsTest {
    private static void gives(String what, TideGuests x, int minute, int wet, int... places) {
        Sentences.due(what + ": WET in all", x.given(minute, Sentences.NONE), wet);
        for (int g = 0; g < places.length; g++) {
            Sentences.due(what + ": given to " + g, x.given(minute, g), places[g]);
        }
    }

    private static void given() {
        Sentences.sentence("GIVEN at a MINUTE to those HERE (5 at most), bars aside: PERCHES (or THE FLOOR)");
        TideGuests x = Sentences.under(2, 2, "tide minute;bars 1<2;wish -high;");
        gives("nobody", x, 9, 0);
        x.perch(10, 1);
        for (int g = 0; g < 5; g++) {
            Sentences.plain(x, 0);
            Sentences.due(g + 1 + " HERE", x.given(9, -1), g);
            Sentences.due(g + 1 + " HERE, the first", x.given(9, 0), 0);
        }
        Sentences.plain(x, 0);
        Sentences.due("six HERE", x.given(9, -1), -1);
        Sentences.due("six HERE, the first", x.given(9, 0), -1);
        x.here(5, 0, false);
        gives("the sixth isn't HERE", x, 9, 4, 0, 8, 8, 8, 8, -1, -1);
        x.here(5, 0, true);
        x.here(0, 0, false);
        gives("the first isn't HERE", x, 9, 4, -1, 0, 8, 8, 8, 8, -1);
        Sentences.due("guest -2", x.given(9, -2), -1);
        for (int g = 1; g < 6; g++) {
            x.here(g, 0, false);
        }
        gives("nobody of six", x, 9, 0, -1, -1, -1, -1, -1, -1);
        giveRoom();
        giveLeast();
        giveLowest();
    }

    private static void giveRoom() {
        for (int room = 1; room <= 4; room++) {
            TideGuests x = Sentences.under(2, 2, "tide 5;");
            x.perch(5, room);
            Sentences.plain(x, 0, 0, 0, 0, 0);
            Sentences.due("a PERCH of ROOM " + room, x.given(0, -1), 5 - room);
            for (int g = 0; g < 5; g++) {
                Sentences.due("guest " + g + " by ROOM " + room, x.given(0, g), g < room ? 0 : 8);
            }
        }
    }

    private static void giveLeast() {
        Sentences.sentence("by which RANK + 1 of all who are WET is least, together");
        TideGuests x = Sentences.under(2, 2, "tide minute;");
        x.perch(10, 1);
        x.perch(20, 1);
        Sentences.plain(x, 0, 9, 5);
        gives("LEVEL 0, all dry", x, 0, 0, 0, 1, 8);
        gives("LEVEL 10", x, 10, 1, 8, 0, 1);
        gives("LEVEL 11", x, 11, 7, 0, 1, 8);
        gives("LEVEL 20", x, 20, 7, 0, 1, 8);
        gives("LEVEL 21, all WET", x, 21, 17, 0, 1, 8);
        TideGuests least = Sentences.under(2, 2, "tide 5;");
        least.perch(4, 1);
        least.perch(5, 1);
        Sentences.plain(least, 0, 1);
        gives("RANK 0 is the least", least, 0, 1, 0, 1);
        least.perch(5, 1);
        gives("none is WET for a lower PERCH", least, 0, 0, 1, 2);
        least.here(0, 0, false);
        Sentences.plain(least, 0);
        gives("nor the least one", least, 0, 0, -1, 1, 2);
        TideGuests dry = Sentences.under(2, 2, "tide 5;");
        dry.perch(5, 1);
        Sentences.plain(dry, 0, 1);
        gives("the greater one is dry", dry, 0, 1, 8, 0);
        dry.perch(9, 1);
        Sentences.plain(dry, 2);
        gives("the two greater ones are", dry, 0, 1, 8, 0, 1);
        TideGuests y = Sentences.under(2, 2, "tide 5;");
        y.perch(5, 2);
        Sentences.plain(y, 3, 3, 3, 7, 1);
        gives("RANK 7 and the first of RANK 3", y, 0, 10, 0, 8, 8, 0, 8);
        y.perch(4, 4);
        gives("the others on a wet PERCH", y, 0, 10, 0, 1, 1, 0, 1);
        y.perch(9, 1);
        gives("one more dry", y, 0, 6, 0, 0, 1, 2, 1);
    }

    private static void giveLowest() {
        Sentences.sentence("of like ones by which the lowest GUEST has the lowest PERCH (THE FLOOR behind all), then the next, ..");
        TideGuests x = Sentences.under(2, 2, "tide 5;");
        x.perch(1, 1);
        x.perch(5, 1);
        x.perch(2, 1);
        x.perch(6, 1);
        x.perch(7, 1);
        Sentences.plain(x, 2, 2, 2);
        gives("three dry for three", x, 0, 0, 1, 3, 4);
        Sentences.plain(x, 2);
        gives("the first takes a wet one, as one is WET always", x, 0, 3, 0, 1, 3, 4);
        Sentences.plain(x, 2);
        gives("two wet ones, the third takes the other", x, 0, 6, 0, 1, 2, 3, 4);
        x.here(0, 0, false);
        gives("the next", x, 0, 3, -1, 0, 1, 3, 4);
        TideGuests y = Sentences.under(2, 2, "tide 0;");
        for (int p = 0; p < 8; p++) {
            y.perch(p == 7 ? 0 : 50, 1);
        }
        Sentences.plain(y, 4, 4, 4, 4, 4);
        gives("no water", y, 0, 0, 0, 1, 2, 3, 4);
        TideGuests z = Sentences.under(2, 2, "tide 50;");
        for (int p = 0; p < 8; p++) {
            z.perch(p == 7 ? 50 : 49, 1);
        }
        Sentences.plain(z, 4, 9, 4);
        gives("PERCH 7 ahead of THE FLOOR, and dry", z, 0, 10, 0, 7, 1);
        TideGuests floor = Sentences.under(2, 2, "tide 3;");
        Sentences.plain(floor, 0, 1);
        gives("no PERCHES", floor, 0, 3, 8, 8);
        Sentences.law(floor, "tide 0;");
        gives("no PERCHES, no water", floor, 0, 0, 8, 8);
    }

    private static void hatches(String what, TideGuests x, int m, int saved, int worth, int drown) {
        Sentences.due(what + ": SAVED from " + m, x.hatch(m, 0), saved);
        Sentences.due(what + ": what that is from " + m, x.hatch(m, 1), worth);
        Sentences.due(what + ": drown from " + m, x.hatch(m, 2), drown);
    }

    private static void bagged(TideGuests x, int rank, int nose, int bag) {
        x.guest(rank, nose, false, 0, bag, 1, 0);
    }

    private static void hatch() {
        Sentences.sentence("THE HATCH from MINUTE m on: of those HERE, SEATED at m and staying so");
        TideGuests x = Sentences.under(2, 2, "tide minute;bars minute#5 and minute#6;");
        hatches("nobody", x, 5, 0, 0, 0);
        x.perch(10, 1);
        bagged(x, 0, 0, 0);
        bagged(x, 1, 0, 4);
        hatches("on a PERCH till 11; the other one is UNDER", x, 6, 2, 2, 1);
        hatches("on a PERCH of 5", x, 5, 2, 2, 1);
        hatches("barred at 4, both to 4 on THE FLOOR", x, 4, 0, 0, 2);
        hatches("at 0 both have a MINUTE", x, 0, 1, 1, 1);
        x.here(1, 0, false);
        hatches("the other one isn't HERE", x, 5, 1, 1, 0);
        x.here(0, 0, false);
        hatches("none is HERE", x, 5, 0, 0, 0);
        hatchEnds();
        hatchQueue();
        hatchBest();
    }

    private static void hatchEnds() {
        Sentences.sentence("one's END is the first MINUTE from m on at which he is UNDER (1440: none)");
        TideGuests x = Sentences.under(2, 2, "tide minute;");
        bagged(x, 3, 7, 0);
        hatches("UNDER at 8, out at 8", x, 7, 1, 4, 0);
        hatches("UNDER at once", x, 8, 0, 0, 1);
        hatches("UNDER since", x, 9, 0, 0, 1);
        TideGuests y = Sentences.under(2, 2, "tide 0;");
        bagged(y, 3, 0, 9);
        hatches("never UNDER, out by 1440", y, 1430, 1, 4, 0);
        hatches("out behind 1440", y, 1431, 0, 0, 1);
        bagged(y, 2, 0, 0);
        hatches("at the last MINUTE", y, 1439, 2, 3, 1);
        TideGuests z = Sentences.under(2, 2, "tide 2-(1435-minute)*(minute-1434);");
        bagged(z, 3, 0, 0);
        z.perch(3, 1);
        // the tide's least is 2 at 1434 and 1435, and 4 at 1433 and 1436
        hatches("UNDER at 1436", z, 1434, 1, 4, 0);
        hatches("out by then", z, 1435, 1, 4, 0);
        hatches("UNDER when it begins", z, 1436, 0, 0, 1);
        hatches("UNDER when it begins, dry since", z, 1433, 0, 0, 1);
    }

    private static void hatchQueue() {
        Sentences.sentence("One behind the other, each needs 1 + BAG MINUTES; who is out at m + all these MINUTES up to his, must be so by his END");
        for (int bag = 0; bag <= 9; bag++) {
            TideGuests x = Sentences.under(2, 2, "tide minute;");
            bagged(x, 5, 20, bag);
            hatches("BAG " + bag, x, 20 - bag, 1, 6, 0);
            hatches("a MINUTE late with BAG " + bag, x, 21 - bag, 0, 0, 1);
        }
        TideGuests y = Sentences.under(2, 2, "tide minute;");
        bagged(y, 0, 30, 9);
        bagged(y, 0, 20, 9);
        bagged(y, 0, 10, 9);
        hatches("each ten, one behind the other", y, 1, 7, 3, 0);
        hatches("a MINUTE less", y, 2, 3, 2, 1);
        TideGuests four = Sentences.under(2, 2, "tide minute;");
        bagged(four, 0, 30, 9);
        bagged(four, 0, 29, 9);
        bagged(four, 0, 28, 9);
        bagged(four, 0, 10, 9);
        hatches("40 MINUTES are too many for four", four, 0, 7, 3, 1);
        bagged(four, 0, 0, 0);
        hatches("one who goes ahead of all", four, 0, 7 + 16, 4, 1);
        TideGuests z = Sentences.under(2, 2, "tide minute;");
        bagged(z, 9, 10, 2);
        bagged(z, 9, 10, 5);
        bagged(z, 9, 10, 1);
        // END 11 for each; 3, 6 and 2 MINUTES
        hatches("together eleven", z, 0, 7, 30, 0);
        hatches("together ten", z, 1, 3, 20, 1);
        hatches("3 and 6", z, 2, 3, 20, 1);
        hatches("6 and 2", z, 3, 5, 20, 1);
        hatches("3 and 2", z, 6, 5, 20, 1);
        hatches("one of them", z, 7, 1, 10, 2);
        hatches("the lightest", z, 9, 4, 10, 2);
        hatches("none", z, 10, 0, 0, 3);
    }

    private static void hatchBest() {
        Sentences.sentence("SAVED: the set of which RANK + 1 together is greatest, of those that can all be out so (by END, then number); of like ones "
            + "the lowest bits; what that is; the others drown");
        TideGuests x = Sentences.under(2, 2, "tide minute;");
        bagged(x, 9, 10, 9);
        bagged(x, 4, 10, 4);
        bagged(x, 3, 10, 4);
        hatches("one of RANK 9 and another", x, 1, 1, 10, 2);
        bagged(x, 4, 10, 3);
        hatches("two of RANK 4 are like him, and lighter", x, 1, 1, 10, 3);
        bagged(x, 0, 10, 0);
        hatches("three are more", x, 1, 2 + 8 + 16, 11, 2);
        TideGuests y = Sentences.under(2, 2, "tide minute;");
        bagged(y, 1, 20, 0);
        bagged(y, 1, 10, 9);
        bagged(y, 1, 30, 9);
        // by END: 1, then 0, then 2
        hatches("by END, not by number", y, 1, 7, 6, 0);
        hatches("the one who is UNDER first can't", y, 2, 5, 4, 1);
        TideGuests z = Sentences.under(2, 2, "tide minute;");
        for (int g = 0; g < 10; g++) {
            bagged(z, 0, 9, 0);
        }
        hatches("ten in ten MINUTES", z, 0, 1023, 10, 0);
        hatches("ten in nine", z, 1, 511, 9, 1);
        hatches("ten in one", z, 9, 1, 1, 9);
        hatches("ten in none", z, 10, 0, 0, 10);
        z.here(0, 0, false);
        hatches("nine in nine", z, 1, 1022, 9, 0);
        hatches("nine in one", z, 9, 2, 1, 8);
    }

    private static void horses() {
        Sentences.sentence("HORSES (7 at most): WEIGHTS (1 .. 999)");
        TideGuests x = new TideGuests(2, 2);
        int told = 0;
        for (int weight : new int[] {0, 1, -1, 999, 1000, 500, Sentences.MIN, Sentences.MAX, 1, 1, 1, 1}) {
            boolean right = weight >= 1 && weight <= 999;
            told += right ? 1 : 0;
            Sentences.due("horse(" + weight + ")", x.horse(weight), right ? told : -1);
            Sentences.due("HORSES", x.about(9), told);
        }
        Sentences.due("the eighth", x.horse(1), -1);
        Sentences.due("HORSES", x.about(9), 7);
        Sentences.sentence("RAFTS: a raft of d DOORS (1 .. 20) bears raft (0 at least, 99999 at most; without 100 d)");
        int[][] weights = {{1, 1}, {99, 1}, {100, 1}, {101, 2}, {200, 2}, {201, 3}, {901, 10}, {999, 10}};
        for (int[] w : weights) {
            TideGuests y = w[0] % 2 == 0 ? new TideGuests(2, 2) : Sentences.under(2, 2, "tide 1;");
            y.horse(w[0]);
            Sentences.due("a HORSE of " + w[0], y.rafts(), w[1]);
        }
        TideGuests one = new TideGuests(2, 2);
        one.horse(1);
        String[] laws = {"0", "0-doors", "0-9999*9999", "doors/20", "doors/21", "1/doors", "2/doors", "doors-19", "doors-20", "9999*9999"};
        int[] doors = {-1, -1, -1, 20, -1, 1, 1, 20, -1, 1};
        for (int i = 0; i < 5; i++) {
            Sentences.law(one, "raft " + laws[i] + ";");
            Sentences.due("raft " + laws[i], one.rafts(), doors[i]);
        }
        TideGuests two = new TideGuests(2, 2);
        two.horse(1);
        for (int i = 5; i < 10; i++) {
            Sentences.law(two, "raft " + laws[i] + ";");
            Sentences.due("raft " + laws[i], two.rafts(), doors[i]);
        }
        fewestDoors();
    }

    private static void fewestDoors() {
        Sentences.sentence("The fewest DOORS in all so that each HORSE is on a raft; none.");
        TideGuests x = new TideGuests(2, 2);
        Sentences.due("without HORSES", x.rafts(), 0);
        Sentences.law(x, "raft 0;");
        Sentences.due("without HORSES, nothing bears", x.rafts(), 0);
        x.by(-1);
        int[] weights = {150, 150, 150, 50, 50, 50, 1};
        int[] fewest = {2, 3, 5, 5, 6, 6, 7};
        for (int i = 0; i < 7; i++) {
            x.horse(weights[i]);
            Sentences.due("of " + (i + 1), x.rafts(), fewest[i]);
        }
        TideGuests y = new TideGuests(2, 2);
        for (int i = 0; i < 7; i++) {
            y.horse(999);
        }
        Sentences.due("ten for each, on rafts of one or two", y.rafts(), 70);
        Sentences.law(y, "raft 999;");
        Sentences.due("each on a DOOR", y.rafts(), 7);
        Sentences.law(y, "raft 998;");
        Sentences.due("on none", y.rafts(), -1);
        Sentences.law(y, "raft 6993;");
        Sentences.due("all on a DOOR", y.rafts(), 1);
        Sentences.law(y, "raft 6992;");
        Sentences.due("six on a DOOR, and one", y.rafts(), 2);
        Sentences.law(y, "raft (doors/20)*999;");
        Sentences.due("seven rafts of twenty", y.rafts(), 140);
        TideGuests z = Sentences.under(2, 2, "raft (4-doors)*100;");
        z.horse(300);
        z.horse(100);
        Sentences.due("fewer DOORS bear more", z.rafts(), 2);
        z.horse(301);
        Sentences.due("one is on none", z.rafts(), -1);
    }

    private static void book() {
        Sentences.sentence("A BOOK (12 lines at most): at a MINUTE a GUEST sat on a PERCH (or THE FLOOR)");
        TideGuests x = new TideGuests(2, 2);
        x.perch(5, 1);
        x.perch(5, 1);
        Sentences.plain(x, 0, 0);
        int[][] others = {{-1, 0, 0}, {1440, 0, 0}, {0, -1, 0}, {0, 2, 0}, {0, 0, -2}, {0, 0, 2}, {0, 0, 8}};
        for (int i = 1; i <= 12; i++) {
            for (int[] o : others) {
                Sentences.due("line(" + o[0] + ", " + o[1] + ", " + o[2] + ")", x.line(o[0], o[1], o[2]), -1);
            }
            Sentences.due("line " + i, x.line(i % 2 * 1439, i % 2, i % 3 - 1), i);
            Sentences.due("lines", x.about(10), i);
        }
        Sentences.due("the 13th", x.line(0, 0, 0), -1);
        Sentences.due("lines", x.about(10), 12);
        TideGuests y = new TideGuests(2, 2);
        y.perch(5, 4);
        Sentences.plain(y, 0);
        for (int i = 1; i <= 11; i++) {
            y.line(i, 0, 0);
        }
        theres("eleven lines are so", y, 1, 1, 1, 1);
        y.line(12, 0, -1);
        theres("the twelfth isn't", y, 0, 0, 0, 0);
        there();
    }

    private static void theres(String what, TideGuests x, int sets, int lowest, int all, int some) {
        Sentences.due(what + ": sets", x.there(0), sets);
        Sentences.due(what + ": the lowest", x.there(1), lowest);
        Sentences.due(what + ": in all", x.there(2), all);
        Sentences.due(what + ": in some", x.there(3), some);
    }

    private static void there() {
        Sentences.sentence("THERE: sets of GUESTS (whether HERE or not) of which each line is so, they being SEATED then: how many sets, the lowest, "
            + "who is in all, who in some");
        TideGuests x = new TideGuests(2, 2);
        theres("no GUESTS: the empty set", x, 1, 0, 0, 0);
        for (int g = 0; g < 10; g++) {
            Sentences.plain(x, 9 - g);
            theres(g + 1 + " GUESTS, no lines", x, 2 << g, 0, 0, (2 << g) - 1);
        }
        x.perch(5, 1);
        x.line(0, 9, 0);
        theres("the last takes the only PERCH", x, 1, 512, 512, 512);
        TideGuests y = Sentences.under(2, 2, "bars minute=9;");
        y.perch(5, 2);
        Sentences.plain(y, 1, 3, 3, 2);
        y.here(1, 0, false);
        y.here(3, 0, false);
        theres("HERE or not", y, 16, 0, 0, 15);
        y.line(0, 0, 0);
        theres("of the least RANK: one other at most", y, 4, 1, 1, 15);
        y.line(1, 3, 0);
        theres("and another one", y, 1, 9, 9, 9);
        y.line(9, 0, -1);
        theres("at 9 all are on THE FLOOR", y, 1, 9, 9, 9);
        y.line(10, 0, -1);
        theres("at 10 he isn't", y, 0, 0, 0, 0);
        TideGuests z = new TideGuests(2, 2);
        z.perch(5, 1);
        z.perch(4, 1);
        Sentences.plain(z, 5, 5, 5);
        z.line(7, 2, 1);
        theres("one sits ahead of him", z, 2, 5, 4, 7);
        z.line(7, 1, -1);
        theres("he isn't on THE FLOOR with one ahead", z, 0, 0, 0, 0);
        TideGuests again = Sentences.under(2, 2, "bars 1<2;");
        again.perch(5, 1);
        Sentences.plain(again, 5, 5);
        again.image();
        again.line(7, 1, 0);
        theres("barred", again, 0, 0, 0, 0);
        again.by(-1);
        theres("not barred", again, 1, 2, 2, 2);
        again.back();
        theres("no line", again, 4, 0, 0, 3);
        TideGuests floor = new TideGuests(2, 2);
        floor.perch(5, 1);
        Sentences.plain(floor, 5, 5);
        floor.line(0, 1, -1);
        theres("on THE FLOOR he must be in the set", floor, 1, 3, 3, 3);
        for (int what : new int[] {-1, 4, Sentences.MIN, Sentences.MAX}) {
            Sentences.due("there(" + what + ")", floor.there(what), -1);
        }
    }

    private static void shifts() {
        Sentences.sentence("THE BANK shifts by SEED (0 .. 9999) n times (1 .. 60): X is SEED * 7 + 3; a draw by m: X mod m, X being (X * 143 + 41) mod "
            + "30103 then: a CELL by a draw, its HEIGHT a draw by 3, less 1, more (0 .. 99)");
        int[] seeds = {0, 1, 2, 3, 4299, 4300, 4301, 5000, 9998, 9999};
        int[] times = {1, 2, 3, 59, 60};
        for (int seed : seeds) {
            for (int n : times) {
                for (int at = 0; at <= 99; at += 33) {
                    shifted(seed, n, at, 2 + seed % 5, 2 + n % 5);
                }
            }
        }
        TideGuests x = new TideGuests(2, 2);
        int[][] others = {{-1, 1}, {10000, 1}, {0, 0}, {0, -1}, {0, 61}, {Sentences.MIN, 1}, {Sentences.MAX, 1}, {0, Sentences.MIN},
            {0, Sentences.MAX}};
        for (int[] o : others) {
            Sentences.due("shift(" + o[0] + ", " + o[1] + ")", x.shift(o[0], o[1]), -1);
        }
        // X 3: CELL 3; X 470: 2 by 3, one more
        Sentences.due("shift(0, 1)", x.shift(0, 1), 1);
        Sentences.due("its CELL", x.about(103), 1);
        // X 17: CELL 1; X 2472: 0 by 3, one less, but not below 0
        Sentences.due("shift(2, 1) at 0", x.shift(2, 1), 1);
        Sentences.due("0 at least", x.about(101), 0);
        x.cell(3, 99, true);
        x.cell(1, 1, false);
        Sentences.due("shift(0, 1) at 99", x.shift(0, 1), 100);
        Sentences.due("99 at most", x.about(103), 99);
        Sentences.due("SHORE stays", x.about(203), 1);
        Sentences.due("shift(2, 1) at 1", x.shift(2, 1), 99);
        Sentences.due("0", x.about(101), 0);
    }

    private static void shifted(int seed, int n, int at, int w, int h) {
        TideGuests x = new TideGuests(w, h);
        long[] heights = new long[w * h];
        for (int c = 0; c < w * h; c++) {
            x.cell(c, at, c % 2 == 0);
            heights[c] = at;
        }
        long draw = seed * 7L + 3;
        for (int i = 0; i < n; i++) {
            int c = (int) (draw % (w * h));
            draw = (draw * 143 + 41) % 30103;
            heights[c] = Math.max(0, Math.min(99, heights[c] + draw % 3 - 1));
            draw = (draw * 143 + 41) % 30103;
        }
        long sum = 0;
        for (long height : heights) {
            sum += height;
        }
        String what = "shift(" + seed + ", " + n + ") of " + w + " by " + h + " at " + at;
        Sentences.due(what, x.shift(seed, n), sum);
        for (int c = 0; c < w * h; c++) {
            Sentences.due(what + ": HEIGHT of " + c, x.about(100 + c), heights[c]);
            Sentences.due(what + ": SHORE of " + c, x.about(200 + c), c % 2 == 0 ? 1 : 0);
        }
    }

    public static void main(String[] args) {
        given();
        hatch();
        horses();
        book();
        shifts();
        Sentences.finish();
    }
}
