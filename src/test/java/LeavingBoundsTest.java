/** The edges that the document's fourth term names: ways, the last minute, the pilot. */
public final class LeavingBoundsTest {
    /** A bank whose heights are told row by row, SHORE where one is told as a hundred more. */
    private static TideGuests bank(int w, String tide, int... heights) {
        TideGuests x = Sentences.under(w, heights.length / w, "tide " + tide + ";");
        for (int c = 0; c < heights.length; c++) {
            x.cell(c, heights[c] % 100, heights[c] >= 100);
        }
        return x;
    }

    private static void walker(TideGuests x, int pace, int wades) {
        x.guest(0, 0, false, 0, 0, pace, wades);
    }

    private static void way(String what, TideGuests x, int guest, int m, int... cells) {
        Sentences.due(what + ": steps at " + m, x.way(guest, m, Sentences.NONE), cells.length);
        for (int k = 0; k < cells.length; k++) {
            Sentences.due(what + ": step " + k + " at " + m, x.way(guest, m, k), cells[k]);
        }
        Sentences.due(what + ": behind the last step", x.way(guest, m, cells.length), -1);
    }

    private static void noWay(String what, TideGuests x, int guest, int m) {
        Sentences.due(what + ": none at " + m, x.way(guest, m, Sentences.NONE), -1);
        Sentences.due(what + ": no step at " + m, x.way(guest, m, 0), -1);
    }

    private static void paces() {
        Sentences.sentence("a GUEST goes at a MINUTE m from THE INN's CELL step by step to CELLS beside (by a side), each PACE MINUTES later "
            + "than the one ahead");
        for (int pace = 1; pace <= 20; pace++) {
            TideGuests x = bank(3, "minute", 0, 99, 99, 0, 0, 199);
            walker(x, pace, 0);
            way("dry cells alone", x, 0, 0, 1, 2, 5);
            way("the last dry minute", x, 0, 99 - 3 * pace, 1, 2, 5);
            noWay("a minute late", x, 0, 100 - 3 * pace);
            Sentences.due("LAST by PACE " + pace, x.last(0), 99 - 3 * pace);
        }
        TideGuests y = bank(2, "5", 0, 0, 0, 150);
        walker(y, 1, 0);
        noWay("none by a corner", y, 0, 0);
        TideGuests z = bank(3, "5", 0, 0, 50, 150, 0, 0);
        walker(z, 1, 0);
        z.inn(2);
        noWay("none over the edge to the next row", z, 0, 0);
        z.inn(3);
        z.cell(3, 50, false);
        z.cell(2, 50, true);
        noWay("nor to the row ahead", z, 0, 0);
    }

    private static void depth() {
        Sentences.sentence("he can be in a CELL at a MINUTE (to 1439), if LEVEL then isn't above HEIGHT and WADES together (THE INN's at m isn't "
            + "asked)");
        TideGuests x = bank(2, "minute", 0, 120, 0, 0);
        walker(x, 1, 0);
        walker(x, 1, 30);
        walker(x, 1, 29);
        way("LEVEL as HEIGHT", x, 0, 19, 1);
        noWay("LEVEL above HEIGHT", x, 0, 20);
        way("LEVEL as HEIGHT and WADES", x, 1, 49, 1);
        noWay("LEVEL above HEIGHT and WADES", x, 1, 50);
        way("a step less deep", x, 2, 48, 1);
        noWay("above it", x, 2, 49);
        x.cell(1, 99, true);
        way("LEVEL 129", x, 1, 128, 1);
        noWay("LEVEL 130", x, 1, 129);
        TideGuests y = bank(2, "999-minute", 0, 100, 0, 0);
        walker(y, 20, 0);
        walker(y, 1, 0);
        way("to 1439", y, 0, 1419, 1);
        noWay("not to 1440", y, 0, 1420);
        way("to 1439 by PACE 1", y, 1, 1438, 1);
        noWay("at 1439", y, 1, 1439);
        way("THE INN's at m isn't asked", y, 1, 998, 1);
        noWay("the step is", y, 1, 997);
        TideGuests z = bank(2, "10", 5, 99, 99, 99);
        walker(z, 1, 0);
        z.cell(3, 99, true);
        way("THE INN's under water", z, 0, 7, 1, 3);
    }

    private static void safe() {
        Sentences.sentence("He is safe in a CELL of SHORE that he can be in (at once, if THE INN's is one)");
        TideGuests x = bank(3, "20", 0, 119, 99, 99, 99, 120);
        walker(x, 5, 0);
        walker(x, 5, 1);
        way("by who WADES", x, 1, 0, 1);
        way("a SHORE under water is none", x, 0, 0, 3, 4, 5);
        x.cell(0, 0, true);
        for (int m : new int[] {0, 700, 1439}) {
            way("at once", x, 0, m);
        }
        Sentences.due("LAST of THE INN's SHORE", x.last(0), 1439);
        x.cell(0, 99, false);
        noWay("too late", x, 0, 1439);
        TideGuests y = bank(2, "0", 0, 0, 0, 0);
        walker(y, 1, 30);
        noWay("without SHORE", y, 0, 0);
        Sentences.due("LAST without SHORE", y.last(0), -1);
    }

    private static void fewest() {
        Sentences.sentence("WAY: the fewest steps (not more than there are CELLS; a CELL may be come to again)");
        TideGuests x = bank(2, "10-minute", 99, 99, 0, 100);
        walker(x, 1, 0);
        way("at once down", x, 0, 8, 1, 3);
        noWay("THE INN's SHORE is two steps off, three don't lead there", x, 0, 5);
        way("four steps of four CELLS, to and fro", x, 0, 6, 1, 0, 1, 3);
        noWay("six would be needed", x, 0, 4);
        way("even steps alone lead there", x, 0, 7, 1, 0, 1, 3);
        TideGuests y = bank(2, "10-minute", 99, 0, 99, 100);
        walker(y, 1, 0);
        way("by the other side", y, 0, 6, 2, 0, 2, 3);
        TideGuests z = bank(3, "40-minute", 99, 99, 0, 0, 0, 100);
        walker(z, 1, 0);
        noWay("seven steps would be needed, of six CELLS", z, 0, 35);
        way("five of six", z, 0, 36, 1, 0, 1, 2, 5);
        way("three would do a minute later", z, 0, 37, 1, 0, 1, 2, 5);
        way("three", z, 0, 38, 1, 2, 5);
    }

    private static void fewestOfSix() {
        TideGuests x = bank(3, "40-minute", 99, 99, 100, 0, 0, 0);
        walker(x, 1, 0);
        way("six of six CELLS", x, 0, 34, 1, 0, 1, 0, 1, 2);
        noWay("eight would be needed", x, 0, 32);
        noWay("eight, as two lead there or four", x, 0, 33);
        way("THE INN's CELL may be come to again", x, 0, 36, 1, 0, 1, 2);
        TideGuests y = bank(3, "40-minute", 0, 100, 0, 99, 0, 0);
        walker(y, 1, 0);
        way("one step", y, 0, 39, 1);
        way("THE INN's CELL is dry when come to again", y, 0, 38, 3, 0, 1);
        noWay("it isn't yet, and is asked then", y, 0, 37);
        y.cell(0, 1, false);
        way("it is, being higher", y, 0, 37, 3, 0, 1);
    }

    private static void lowest() {
        Sentences.sentence("of such ways the lowest first CELL, then the second, ..");
        TideGuests x = bank(3, "0", 0, 0, 0, 0, 0, 0, 0, 0, 100);
        walker(x, 1, 0);
        way("all ways dry", x, 0, 0, 1, 2, 5, 8);
        x.cell(2, 50, true);
        way("the nearer SHORE", x, 0, 0, 1, 2);
        x.cell(2, 0, false);
        x.inn(4);
        way("from the middle", x, 0, 0, 5, 8);
        x.cell(6, 0, true);
        way("two SHORES alike", x, 0, 0, 3, 6);
        x.cell(2, 0, true);
        way("three SHORES alike", x, 0, 0, 1, 2);
        x.cell(0, 0, true);
        way("four SHORES alike", x, 0, 0, 1, 0);
        TideGuests y = bank(3, "10", 99, 9, 99, 99, 99, 99, 99, 9, 199);
        walker(y, 1, 0);
        way("around", y, 0, 0, 3, 4, 5, 8);
        y.cell(5, 9, false);
        noWay("cut off", y, 0, 0);
        y.cell(7, 99, false);
        way("by the other side", y, 0, 0, 3, 4, 7, 8);
        TideGuests z = bank(3, "minute", 99, 2, 99, 99, 99, 199);
        walker(z, 2, 0);
        way("the first CELL is still dry", z, 0, 0, 1, 2, 5);
        way("it isn't", z, 0, 1, 3, 4, 5);
    }

    private static void last() {
        Sentences.sentence("LAST: the greatest m (to 1439) at which there is a WAY");
        TideGuests x = bank(2, "(minute-200)*(minute-200)/100", 0, 109, 0, 0);
        walker(x, 1, 0);
        // (m+1-200)^2/100 <= 9 as long as m+1 <= 231
        Sentences.due("till the flood comes again", x.last(0), 230);
        way("at it", x, 0, 230, 1);
        noWay("a minute later", x, 0, 231);
        noWay("far ahead of it", x, 0, 0);
        TideGuests y = bank(2, "10-minute/1000*10", 0, 105, 0, 0);
        walker(y, 20, 0);
        Sentences.due("to 1439, less a PACE", y.last(0), 1419);
        walker(y, 1, 0);
        Sentences.due("to 1439, less a PACE of 1", y.last(1), 1438);
        TideGuests z = bank(2, "minute+1", 0, 100, 0, 0);
        walker(z, 1, 1);
        walker(z, 1, 2);
        Sentences.due("never", z.last(0), -1);
        Sentences.due("at 0 alone", z.last(1), 0);
    }

    private static void pilotSteps() {
        Sentences.sentence("A PILOT (DRUNK 0 .. 3) leads a GUEST, n steps (1 .. 10) from m on");
        TideGuests x = bank(6, "0", 0, 0, 0, 0, 0, 100, 0, 0, 0, 0, 0, 0);
        walker(x, 7, 0);
        for (int n = -1; n <= 12; n++) {
            Sentences.due("five steps off, n " + n, x.pilot(0, 0, 0, n), n < 1 || n > 10 ? -1 : n < 5 ? 0 : 1000);
        }
        for (int drunk = -1; drunk <= 4; drunk++) {
            int parts = 12 - 3 * drunk;
            int straight = parts * parts * parts * parts * 1000 / 20736;
            x.inn(1);
            Sentences.due("four steps off, DRUNK " + drunk, x.pilot(0, 0, drunk, 4), drunk < 0 || drunk > 3 ? -1 : straight);
        }
        Sentences.due("at 1439 - 4 * 7", x.pilot(0, 1411, 0, 4), 1000);
        Sentences.due("behind 1439", x.pilot(0, 1412, 0, 4), 0);
    }

    private static void pilotParts() {
        Sentences.sentence("each goes to the lowest CELL beside that is nearer to SHORE (steps over CELLS, whatever the water) with 12 - 3 DRUNK "
            + "parts of 12, and with DRUNK parts to each of the other three sides (where no CELL is: he stays)");
        // one step to SHORE from each side: 9, 6, 3 parts of 12; with SHORE on all sides all 12
        for (int drunk = 0; drunk <= 3; drunk++) {
            for (int side : new int[] {1, 3, 5, 7}) {
                TideGuests x = bank(3, "0", 0, 0, 0, 0, 0, 0, 0, 0, 0);
                walker(x, 1, 0);
                x.inn(4);
                x.cell(side, 0, true);
                Sentences.due("SHORE " + side + ", DRUNK " + drunk, x.pilot(0, 0, drunk, 1), (12 - 3 * drunk) * 1000 / 12);
                x.cell(1, 0, true);
                int both = side == 1 ? 12 - 3 * drunk : 12 - 2 * drunk;
                Sentences.due("SHORE 1 and " + side + ", DRUNK " + drunk, x.pilot(0, 0, drunk, 1), both * 1000 / 12);
                x.cell(3, 0, true);
                x.cell(5, 0, true);
                x.cell(7, 0, true);
                Sentences.due("SHORE all around, DRUNK " + drunk, x.pilot(0, 0, drunk, 1), 1000);
            }
        }
        TideGuests two = bank(4, "0", 100, 0, 0, 100, 0, 0, 0, 0);
        walker(two, 1, 0);
        two.inn(2);
        Sentences.due("a CELL as far as his own isn't nearer", two.pilot(0, 0, 0, 1), 1000);
        two.inn(1);
        Sentences.due("the other way", two.pilot(0, 0, 0, 1), 1000);
        two.inn(6);
        Sentences.due("from below", two.pilot(0, 0, 0, 2), 1000);
        TideGuests edge = bank(3, "0", 0, 0, 0, 100, 0, 0);
        walker(edge, 1, 0);
        edge.inn(2);
        Sentences.due("no step over the edge to the next row", edge.pilot(0, 0, 3, 1), 0);
        Sentences.due("three steps around", edge.pilot(0, 0, 0, 3), 1000);
        Sentences.due("three steps, DRUNK 3, on three ways", edge.pilot(0, 0, 3, 3), 3 * 27 * 1000 / 1728);
        edge.cell(3, 0, false);
        edge.cell(2, 0, true);
        edge.inn(3);
        Sentences.due("nor to the row ahead", edge.pilot(0, 0, 3, 1), 0);
        // of like ones the lowest: the lowest is dry, the other one lost; and the other way round
        TideGuests y = bank(2, "10", 50, 50, 0, 150);
        walker(y, 1, 0);
        Sentences.due("by the lower one", y.pilot(0, 0, 0, 2), 1000);
        Sentences.due("by the lower one, DRUNK 2", y.pilot(0, 0, 2, 2), 36 * 1000 / 144);
        y.cell(1, 0, false);
        y.cell(2, 50, false);
        Sentences.due("the lower one, whatever the water", y.pilot(0, 0, 0, 2), 0);
        Sentences.due("the other one by drink", y.pilot(0, 0, 2, 2), 2 * 6 * 1000 / 144);
        // 0 SHORE 1: at 0 of 2 by 2 two sides have no CELL; 2 is not nearer
        TideGuests z = bank(2, "0", 0, 100, 0, 0);
        walker(z, 1, 0);
        Sentences.due("one step, DRUNK 3", z.pilot(0, 0, 3, 1), 250);
        // 3 ashore, 6 stay, 3 are in 2; then 3 * 12 + 6 * 3 ashore of 144
        Sentences.due("two steps, DRUNK 3", z.pilot(0, 0, 3, 2), (36 + 18) * 1000 / 144);
        // in 0: 6 * 6 + 3 * 3 = 45; in 2: 6 * 3 + 3 * 6 = 36; in 3: 3 * 3 = 9; ashore 54
        Sentences.due("three steps, DRUNK 3", z.pilot(0, 0, 3, 3), (54 * 12 + 45 * 3 + 9 * 3) * 1000 / 1728);
    }

    private static void pilotLost() {
        Sentences.sentence("who comes where he can't be then is lost; who is in SHORE stays");
        TideGuests x = bank(3, "10", 0, 50, 150, 0, 0, 0);
        walker(x, 1, 0);
        Sentences.due("DRUNK 1: 9 on the way, the others lost", x.pilot(0, 0, 1, 2), 81 * 1000 / 144);
        // of 1 a part goes up, where no CELL is, and stays; one goes on from there
        Sentences.due("three steps", x.pilot(0, 0, 1, 3), (81 * 12 + 9 * 9) * 1000 / 1728);
        x.cell(2, 9, true);
        Sentences.due("SHORE under water is none to come to", x.pilot(0, 0, 1, 3), 0);
        TideGuests y = bank(2, "minute", 0, 105, 0, 0);
        walker(y, 1, 0);
        Sentences.due("who is in SHORE stays, when the water comes", y.pilot(0, 4, 0, 10), 1000);
        Sentences.due("who comes late is lost", y.pilot(0, 5, 0, 10), 0);
        TideGuests z = bank(2, "5-minute", 50, 103, 0, 0);
        walker(z, 1, 0);
        Sentences.due("LEVEL as HEIGHT at 2", z.pilot(0, 1, 0, 1), 1000);
        Sentences.due("LEVEL above HEIGHT at 1", z.pilot(0, 0, 0, 1), 0);
        walker(z, 2, 0);
        walker(z, 1, 1);
        Sentences.due("a step of 2", z.pilot(1, 0, 0, 1), 1000);
        Sentences.due("one who WADES", z.pilot(2, 0, 0, 1), 1000);
        Sentences.sentence("Thousandths (cut) of those who are in SHORE behind them");
        Sentences.due("2 of 12", bankOfThree(1, 2), 166);
        Sentences.due("1 of 12", bankOfThree(1, 1), 83);
        Sentences.sentence("(Without SHORE 0; in THE INN's CELL of SHORE 1000.)");
        TideGuests none = bank(2, "0", 0, 0, 0, 0);
        walker(none, 1, 0);
        for (int drunk = 0; drunk <= 3; drunk++) {
            none.cell(0, 0, false);
            Sentences.due("without SHORE, DRUNK " + drunk, none.pilot(0, 0, drunk, 10), 0);
            none.cell(0, 0, true);
            Sentences.due("in THE INN's, DRUNK " + drunk, none.pilot(0, 1439, drunk, 10), 1000);
        }
        Sentences.law(none, "tide 999;");
        Sentences.due("in THE INN's, under water", none.pilot(0, 0, 3, 1), 1000);
    }

    /** How many of a thousand come ashore by a side, the aim being lost. */
    private static int bankOfThree(int drunk, int shores) {
        TideGuests x = bank(3, "10", 0, 100, 0, 0, 50, 0, 0, 0, 0);
        walker(x, 1, 0);
        x.inn(4);
        x.cell(7, 50, true);
        x.cell(5, 50, shores == 2);
        return x.pilot(0, 0, drunk, 1);
    }

    public static void main(String[] args) {
        paces();
        depth();
        safe();
        fewest();
        fewestOfSix();
        lowest();
        last();
        pilotSteps();
        pilotParts();
        pilotLost();
        Sentences.finish();
    }
}
