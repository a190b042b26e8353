/**
 * For tests that go through the document sentence by sentence: the sentence that is looked at,
 * the answers that are due by it, and ways to make an object that stands just at an edge.
 */
final class Sentences {
    static final int NONE = TideGuests.NONE;
    static final int MIN = Integer.MIN_VALUE;
    static final int MAX = Integer.MAX_VALUE;
    /** One slip can show at thousands of answers. */
    private static final int MOST_TOLD = 100;

    private static String words = "";
    private static int sentences = 0;
    private static int asked = 0;
    private static int wrong = 0;

    private Sentences() {
    }

    /** The words of the document that the answers from here on hang on. */
    static void sentence(String of) {
        words = of;
        sentences++;
    }

    static void due(String what, long got, long want) {
        asked++;
        if (got != want) {
            wrong++;
            if (wrong <= MOST_TOLD) {
                System.out.println("\"" + words + "\": " + what + " answered " + got + ", due is " + want);
            }
        }
    }

    static void due(String what, boolean got, boolean want) {
        due(what, got ? 1 : 0, want ? 1 : 0);
    }

    static void finish() {
        System.out.println(sentences + " sentences, " + asked + " answers, " + wrong + " of them not as due");
        if (wrong != 0) {
            System.exit(1);
        }
    }

    /** Puts bytes on the tape, which has nothing but them then. */
    static void tape(TideGuests x, String bytes) {
        x.end(0);
        for (int i = 0; i < bytes.length(); i += 20) {
            int[] fours = new int[5];
            for (int j = 0; j < 20; j++) {
                fours[j / 4] = fours[j / 4] << 8 | (i + j < bytes.length() ? bytes.charAt(i + j) & 255 : 32);
            }
            x.feed(fours[0], fours[1], fours[2], fours[3], fours[4]);
        }
        x.end(bytes.length());
    }

    static void law(TideGuests x, String text) {
        tape(x, text);
        int number = x.text();
        if (number < 0 || !x.by(number)) {
            due("text of \"" + text + "\"", number, 0);
        }
    }

    static TideGuests under(int w, int h, String text) {
        TideGuests x = new TideGuests(w, h);
        law(x, text);
        return x;
    }

    static int plain(TideGuests x, int rank) {
        return x.guest(rank, 0, false, 0, 0, 1, 0);
    }

    static void plain(TideGuests x, int... ranks) {
        for (int rank : ranks) {
            plain(x, rank);
        }
    }

    static void levels(TideGuests x, int[]... minutesAndLevels) {
        for (int[] one : minutesAndLevels) {
            due("level(" + one[0] + ")", x.level(one[0]), one[1]);
        }
    }

    /** What each of the first guests is asked for, from guest 0 on. */
    static void seats(String when, TideGuests x, int minute, int... places) {
        for (int g = 0; g < places.length; g++) {
            due(when + ": seat(" + minute + ", " + g + ")", x.seat(minute, g), places[g]);
        }
    }

    static void tolds(String when, TideGuests x, int guest, int... told) {
        for (int what = 0; what < told.length; what++) {
            due(when + ": told(" + guest + ", " + what + ")", x.told(guest, what), told[what]);
        }
    }

    /** A text on a new object: the fault and its place that are due (0 and NONE without). */
    static void faulty(String text, int fault, int place) {
        TideGuests x = new TideGuests(2, 2);
        tape(x, text);
        due("text() of \"" + text + "\"", x.text(), fault == 0 ? 0 : NONE);
        due("fault(0) of \"" + text + "\"", x.fault(0), fault);
        due("fault(1) of \"" + text + "\"", x.fault(1), place);
    }

    static void right(String text) {
        faulty(text, 0, NONE);
    }

    /** Whether asks are so, by a perch that they bar. */
    static boolean so(String asks) {
        TideGuests x = under(2, 2, "bars " + asks + ";");
        x.perch(50, 1);
        plain(x, 0);
        return x.seat(0, 0) == NONE;
    }

    static void isSo(String asks, boolean want) {
        due(asks, so(asks), want);
    }

    /** A sum's value, up to a million on both sides of 0. */
    static void is(String sum, int value) {
        String like = value == 1000000 || value == -1000000 ? "1000*1000" : Math.abs(value) / 1000 + "*1000+"
            + Math.abs(value) % 1000;
        String signed = value < 0 ? "-(" + like + ")" : like;
        due(sum + " = " + value, so(sum + "=" + signed), true);
        due(sum + " # " + value, so(sum + "#" + signed), false);
    }
}
