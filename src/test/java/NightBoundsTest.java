/** The edges that the document's third term names: who is seated where, nights and bills. */
public final class NightBoundsTest {
    private static void order() {
        Sentences.sentence("SEATED at a MINUTE: of a set of GUESTS in the order of RANK, the greatest first, of like ones the lowest");
        TideGuests x = new TideGuests(2, 2);
        for (int p = 0; p < 8; p++) {
            x.perch(80 - p, 1);
        }
        Sentences.plain(x, 0, 9, 5, 9, 0, 5);
        Sentences.seats("six of three RANKS", x, 0, 4, 0, 2, 1, 5, 3);
        x.here(1, 0, false);
        Sentences.seats("the first is gone", x, 0, 3, -2, 1, 0, 4, 2);
        x.here(3, 0, false);
        x.here(0, 0, false);
        Sentences.seats("two are left of each", x, 0, -2, -2, 0, -2, 2, 1);
        x.here(1, 0, true);
        Sentences.seats("he is back, behind nobody", x, 0, -2, 0, 1, -2, 3, 2);
        TideGuests y = new TideGuests(2, 2);
        for (int p = 0; p < 8; p++) {
            y.perch(8, 1);
        }
        Sentences.plain(y, 3, 3, 3, 3, 3, 3, 3, 3, 3, 3);
        Sentences.seats("ten alike", y, 0, 0, 1, 2, 3, 4, 5, 6, 7, -1, -1);
        TideGuests z = new TideGuests(2, 2);
        z.perch(1, 1);
        for (int rank = 0; rank < 10; rank++) {
            Sentences.plain(z, rank);
            for (int g = 0; g <= rank; g++) {
                Sentences.due("the last told is the greatest: " + g, z.seat(0, g), g == rank ? 0 : -1);
            }
        }
    }

    private static void choice() {
        Sentences.sentence("each takes of the PERCHES that have room left and are not barred to him (a bars clause is so) that of which "
            + "his wish (as it is; without HIGH) is greatest, of like ones the lowest; none: THE FLOOR");
        TideGuests x = new TideGuests(2, 2);
        x.perch(10, 2);
        x.perch(99, 1);
        x.perch(10, 1);
        x.perch(0, 1);
        Sentences.plain(x, 0, 0, 0, 0, 0, 0);
        Sentences.seats("without a wish by HIGH", x, 0, 1, 0, 0, 2, 3, -1);
        Sentences.law(x, "tide 1;");
        Sentences.seats("without a wish clause by HIGH", x, 0, 1, 0, 0, 2, 3, -1);
        Sentences.law(x, "wish 0-high;");
        Sentences.seats("a wish below 0", x, 0, 3, 0, 0, 2, 1, -1);
        Sentences.law(x, "wish high-9999*9999;");
        Sentences.seats("a wish of the least", x, 0, 1, 0, 0, 2, 3, -1);
        Sentences.law(x, "wish 9999*9999+high;");
        Sentences.seats("a wish of the most", x, 0, 0, 0, 1, 2, 3, -1);
        Sentences.law(x, "wish 9999*100+high;");
        Sentences.seats("a wish above 999", x, 0, 1, 0, 0, 2, 3, -1);
        Sentences.law(x, "bars high=99;bars high=0 or rank>5;bars 1>2;wish high;");
        Sentences.seats("by each of the clauses", x, 0, 0, 0, 2, -1, -1, -1);
        TideGuests four = Sentences.under(2, 2, "wish high-with*4;");
        four.perch(10, 4);
        four.perch(1, 4);
        Sentences.plain(four, 0, 0, 0, 0, 0, 0, 0);
        Sentences.seats("wishes by who sits there", four, 0, 0, 0, 0, 1, 0, 1, 1);
        TideGuests y = new TideGuests(2, 2);
        y.perch(10, 2);
        y.perch(99, 1);
        y.perch(10, 1);
        y.guest(0, 0, true, 0, 0, 1, 0);
        y.guest(0, 0, false, 0, 0, 1, 0);
        Sentences.law(y, "bars swim=1 and high=99;");
        Sentences.seats("barred to him alone", y, 0, 0, 1);
        Sentences.law(y, "bars minute#0;");
        Sentences.seats("all barred", y, 1, -1, -1);
        Sentences.seats("none barred", y, 0, 1, 0);
        Sentences.law(y, "bars 1<2;wish 5;");
        Sentences.seats("a wish doesn't help", y, 0, -1, -1);
        Sentences.law(y, "wish 5;bars high=10;bars swim=0;");
        Sentences.seats("the floor is never barred", y, 0, 1, -1);
    }

    private static void wetAndUnder() {
        Sentences.sentence("WET: LEVEL is above HIGH of where he is; UNDER: above HIGH and NOSE together");
        TideGuests x = Sentences.under(2, 2, "tide minute;");
        x.perch(20, 1);
        x.guest(9, 5, false, 0, 0, 1, 0);
        x.guest(8, 5, false, 0, 0, 1, 0);
        x.guest(7, 0, false, 0, 0, 1, 0);
        x.guest(6, 30, false, 0, 0, 1, 0);
        int[][] nights = {{0, 0, 0, 0, 0, 0, 0, 0, 0}, {1, 0, 0, 1, 0, 1, 1, 1, 0}, {5, 0, 0, 1, 0, 1, 1, 1, 0},
            {6, 0, 0, 1, 1, 1, 1, 1, 0}, {20, 0, 0, 1, 1, 1, 1, 1, 0}, {21, 1, 0, 1, 1, 1, 1, 1, 0}, {25, 1, 0, 1, 1, 1, 1, 1, 0},
            {26, 1, 1, 1, 1, 1, 1, 1, 0}, {30, 1, 1, 1, 1, 1, 1, 1, 0}, {31, 1, 1, 1, 1, 1, 1, 1, 1}};
        for (int[] n : nights) {
            x.night(n[0], n[0], 1);
            for (int g = 0; g < 4; g++) {
                Sentences.tolds("LEVEL " + n[0], x, g, n[1 + 2 * g], n[2 + 2 * g]);
            }
        }
        TideGuests y = Sentences.under(2, 2, "tide 130;");
        y.perch(99, 1);
        y.guest(0, 30, false, 0, 0, 1, 0);
        y.night(0, 9, 1);
        Sentences.tolds("the highest NOSE of all, LEVEL 130", y, 0, 10, 10);
        Sentences.law(y, "tide 129;");
        y.night(0, 9, 1);
        Sentences.tolds("the highest NOSE of all, LEVEL 129", y, 0, 10, 0);
    }

    private static void times() {
        Sentences.sentence("A NIGHT from MINUTE a to b (a <= b), every e MINUTES (1 .. 60), of those HERE: at a, a + e, .. (not above b) they "
            + "are SEATED anew");
        int[][] nights = {{0, 0, 1, 1}, {0, 0, 60, 1}, {1439, 1439, 1, 1}, {1439, 1439, 60, 1}, {0, 1, 1, 2}, {5, 4, 1, -1},
            {1439, 0, 60, -1}, {0, 59, 60, 1}, {0, 60, 60, 2}, {0, 61, 60, 2}, {0, 119, 60, 2}, {0, 120, 60, 3}, {7, 66, 60, 1},
            {7, 67, 60, 2}, {0, 1439, 1, 1440}, {0, 1439, 60, 24}, {0, 1439, 59, 25}, {1, 1439, 2, 720}, {0, 10, 0, -1},
            {0, 10, -1, -1}, {0, 10, 61, -1}, {0, 10, Sentences.MAX, -1}, {0, 10, Sentences.MIN, -1}, {-1, 10, 1, -1},
            {0, 1440, 1, -1}, {Sentences.MIN, Sentences.MAX, 1, -1}, {0, Sentences.MAX, 1, -1}, {Sentences.MIN, 0, 1, -1}};
        TideGuests x = new TideGuests(2, 2);
        for (int[] n : nights) {
            Sentences.due("night(" + n[0] + ", " + n[1] + ", " + n[2] + ")", x.night(n[0], n[1], n[2]), n[3]);
        }
        TideGuests y = Sentences.under(2, 2, "bars minute<7 or minute=17 or minute>=27;");
        y.perch(50, 1);
        Sentences.plain(y, 1, 2);
        y.night(5, 25, 10);
        Sentences.due("at 5", y.sat(1, 0), -1);
        Sentences.due("at 15", y.sat(1, 1), 0);
        Sentences.due("at 25", y.sat(1, 2), 0);
        Sentences.due("at 35", y.sat(1, 3), -2);
        y.night(7, 27, 10);
        Sentences.due("at 7", y.sat(1, 0), 0);
        Sentences.due("at 17", y.sat(1, 1), -1);
        Sentences.due("at 27", y.sat(1, 2), -1);
        y.night(7, 26, 10);
        Sentences.due("27 is above b", y.sat(1, 2), -2);
        y.here(1, 0, false);
        y.night(7, 8, 1);
        Sentences.due("who isn't HERE takes no room", y.sat(0, 0), 0);
        Sentences.due("nor sits", y.sat(1, 0), -2);
        y.here(0, 0, false);
        Sentences.due("nobody is HERE", y.night(0, 50, 10), 6);
        Sentences.tolds("nobody is HERE", y, 0, 0, 0, 0, 0, 0);
    }

    private static void minuteByMinute() {
        Sentences.sentence("MINUTE by MINUTE (a and b, too): how many one was WET, UNDER");
        TideGuests x = Sentences.under(2, 2, "tide 30-minute;");
        x.guest(0, 10, false, 0, 0, 1, 0);
        int[][] nights = {{0, 0, 1, 1}, {29, 29, 1, 0}, {30, 30, 0, 0}, {0, 1439, 30, 20}, {19, 19, 1, 1}, {20, 20, 1, 0},
            {18, 20, 3, 2}, {29, 31, 1, 0}};
        for (int[] n : nights) {
            for (int every = 1; every <= 60; every += 59) {
                x.night(n[0], n[1], every);
                Sentences.tolds("from " + n[0] + " to " + n[1] + " every " + every, x, 0, n[2], n[3]);
            }
        }
        TideGuests y = Sentences.under(2, 2, "tide 5;bars minute>0 and minute<20;");
        y.perch(5, 1);
        Sentences.plain(y, 0);
        y.night(0, 29, 10);
        Sentences.tolds("dry for the first ten and the last", y, 0, 10, 10, 2);
        y.night(0, 29, 7);
        Sentences.tolds("SEATED at 0, 7, 14, 21, 28", y, 0, 14, 14, 2);
        y.night(0, 29, 30);
        Sentences.tolds("SEATED once", y, 0, 0, 0, 0);
        y.night(1, 29, 30);
        Sentences.tolds("SEATED once, on THE FLOOR", y, 0, 29, 29, 0);
    }

    private static void moves() {
        Sentences.sentence("MOVES: how often one was SEATED elsewhere than the time ahead");
        TideGuests x = Sentences.under(2, 2, "wish (minute-minute/2*2)*high;bars minute/3*3=minute;");
        x.perch(10, 1);
        x.perch(20, 1);
        Sentences.plain(x, 0);
        // from 0: floor, 1, 0, floor, 0, 1, floor
        int[] places = {-1, 1, 0, -1, 0, 1, -1};
        for (int to = 0; to <= 6; to++) {
            x.night(0, to, 1);
            Sentences.due("MOVES till " + to, x.told(0, 2), to);
            Sentences.due("place at " + to, x.sat(0, to), places[to]);
        }
        x.night(0, 1439, 6);
        Sentences.due("always on THE FLOOR", x.told(0, 2), 0);
        x.night(1, 1439, 6);
        Sentences.due("always on one PERCH", x.told(0, 2), 0);
        x.night(0, 1439, 3);
        Sentences.due("never up", x.told(0, 2), 0);
        x.night(1, 4, 3);
        Sentences.due("the first time is none, whatever the NIGHT ahead", x.told(0, 2), 1);
        x.night(1, 1, 1);
        Sentences.due("a NIGHT anew", x.told(0, 2), 0);
        x.night(0, 1439, 1);
        Sentences.due("also behind the 50th time", x.told(0, 2), 1439);
    }

    private static void quarrels() {
        Sentences.sentence("QUARRELS: each time that they are SEATED, twos on one PERCH (not on THE FLOOR) for which a quarrel clause is so (for the "
            + "one of both or for the other)");
        int[][] counts = {{1, 0}, {2, 1}, {3, 3}, {4, 6}, {5, 6}, {6, 7}, {7, 9}, {8, 12}, {9, 12}, {10, 13}};
        for (int[] c : counts) {
            TideGuests x = Sentences.under(2, 2, "quarrel 1<2;quarrel 2<3;");
            x.perch(5, 4);
            x.perch(4, 4);
            x.perch(3, 4);
            for (int g = 0; g < c[0]; g++) {
                Sentences.plain(x, 5);
            }
            x.night(0, 0, 1);
            Sentences.due("twos of " + c[0] + " by four", x.told(0, 4), c[1]);
            x.night(0, 9, 3);
            Sentences.due("four times", x.told(0, 4), 4 * c[1]);
        }
        TideGuests y = Sentences.under(2, 2, "quarrel rank>other;");
        y.perch(5, 2);
        Sentences.plain(y, 3, 4, 5, 5);
        y.night(0, 0, 1);
        Sentences.due("like ones on the PERCH, others on THE FLOOR", y.told(0, 4), 0);
        y.here(2, 0, false);
        y.night(0, 0, 1);
        Sentences.due("for the one of both", y.told(0, 4), 1);
        Sentences.law(y, "quarrel rank<other;");
        y.night(0, 0, 1);
        Sentences.due("for the other", y.told(0, 4), 1);
        Sentences.law(y, "quarrel rank#other;");
        y.night(0, 0, 1);
        Sentences.due("for both, once", y.told(0, 4), 1);
        Sentences.law(y, "quarrel rank=other;");
        y.night(0, 0, 1);
        Sentences.due("for none", y.told(0, 4), 0);
        Sentences.law(y, "quarrel 1>2;quarrel rank=4 and other=5;");
        y.night(0, 59, 60);
        Sentences.due("by the second clause", y.told(0, 4), 1);
        TideGuests z = Sentences.under(2, 2, "quarrel 1<2;");
        Sentences.plain(z, 0, 0, 0);
        z.night(0, 9, 1);
        Sentences.due("peace on THE FLOOR", z.told(0, 4), 0);
        z.perch(0, 1);
        z.perch(0, 1);
        z.night(0, 9, 1);
        Sentences.due("peace on PERCHES of their own", z.told(0, 4), 0);
    }

    private static void latest() {
        Sentences.sentence("Told of the latest NIGHT; those who weren't HERE have 0");
        TideGuests x = Sentences.under(2, 2, "tide 9;quarrel 1<2;bill 5;");
        x.perch(0, 4);
        Sentences.plain(x, 1, 2, 3);
        x.here(2, 9, false);
        x.night(0, 9, 1);
        Sentences.tolds("HERE", x, 0, 10, 10, 0, 5, 10);
        Sentences.tolds("not HERE", x, 2, 0, 0, 0, 0, 10);
        x.here(0, 0, false);
        x.here(2, 9, true);
        Sentences.tolds("HERE then", x, 0, 10, 10, 0, 5, 10);
        Sentences.tolds("not HERE then", x, 2, 0, 0, 0, 0, 10);
        Sentences.plain(x, 4);
        Sentences.tolds("not yet told then", x, 3, 0, 0, 0, 0, 10);
        x.night(3, 2, 1);
        Sentences.tolds("behind a wrong NIGHT", x, 0, 10, 10, 0, 5, 10);
        x.night(0, 4, 1);
        Sentences.tolds("gone at the latest", x, 0, 0, 0, 0, 0, 15);
        Sentences.tolds("HERE at the latest", x, 2, 5, 5, 0, 5, 15);
        Sentences.tolds("told since", x, 3, 5, 5, 0, 5, 15);
        Sentences.due("times of the latest", x.sat(2, 4), 0);
        Sentences.due("not of those ahead", x.sat(2, 5), -2);
    }

    private static void bills() {
        Sentences.sentence("BILL of a GUEST by the latest NIGHT: bill (0 at least, 999999 at most; without: 10 for each hour begun of WET MINUTES, "
            + "and CRABS); 0 of who wasn't HERE in it");
        TideGuests x = Sentences.under(2, 2, "tide 1;");
        Sentences.plain(x, 0, 0);
        x.here(0, 7, true);
        x.here(1, 99, false);
        Sentences.due("ahead of any", x.told(0, 3), 0);
        int[][] wets = {{0, 0, 17}, {0, 58, 17}, {0, 59, 17}, {0, 60, 27}, {0, 61, 27}, {0, 119, 27}, {0, 120, 37}, {0, 1438, 247},
            {0, 1439, 247}};
        for (int[] w : wets) {
            x.night(w[0], w[1], 60);
            Sentences.due("BILL from " + w[0] + " to " + w[1], x.told(0, 3), w[2]);
            Sentences.due("BILL of who wasn't HERE", x.told(1, 3), 0);
        }
        Sentences.law(x, "tide 0;");
        x.night(0, 1439, 60);
        Sentences.due("dry, but for CRABS", x.told(0, 3), 7);
        x.here(0, 0, true);
        Sentences.due("no CRABS", x.told(0, 3), 0);
        Sentences.due("dry, WET", x.told(0, 0), 0);
        String[] sums = {"0-1", "0-9999*9999", "0", "1", "9999*100+98", "9999*100+99", "9999*100+100", "9999*9999", "wet+5"};
        int[] bills = {0, 0, 0, 1, 999998, 999999, 999999, 999999, 5};
        TideGuests y = null;
        for (int i = 0; i < sums.length; i++) {
            if (i % 5 == 0) {
                y = new TideGuests(2, 2);
                Sentences.plain(y, 0, 0);
                y.here(1, 5, false);
                y.night(0, 0, 1);
            }
            Sentences.law(y, "bill " + sums[i] + ";");
            Sentences.due("bill " + sums[i], y.told(0, 3), bills[i]);
            Sentences.due("bill " + sums[i] + " of who wasn't HERE", y.told(1, 3), 0);
        }
    }

    public static void main(String[] args) {
        order();
        choice();
        wetAndUnder();
        times();
        minuteByMinute();
        moves();
        quarrels();
        latest();
        bills();
        Sentences.finish();
    }
}
