import java.util.ArrayList;
import java.util.List;

/**
 * Refused calls, calls that ask alone, and the image: whether they leave all that can be asked as
 * it was. An object answers 512 calls only, so that what can be asked is asked of several that
 * have been through the same.
 */
public final class CallsBoundsTest {
    private static final int CALLS = 300;
    private static final List<Call> PROBES = new ArrayList<>();
    private static final List<String> NAMES = new ArrayList<>();

    private interface Call {
        long on(TideGuests x);
    }

    private interface Past {
        void of(TideGuests x);
    }

    private static void probe(String name, Call call) {
        NAMES.add(name);
        PROBES.add(call);
    }

    /** All that can be asked, but what the tape and the latest fault are. */
    private static void collectProbes() {
        for (int what = -2; what < 310; what++) {
            int asked = what;
            if (what != 11) {
                probe("about(" + what + ")", x -> x.about(asked));
            }
        }
        for (int g = -1; g < 11; g++) {
            int guest = g;
            for (int w = 0; w < 5; w++) {
                int what = w;
                probe("told(" + g + ", " + w + ")", x -> x.told(guest, what));
            }
            for (int k = -1; k <= 50; k += k < 2 || k > 47 ? 1 : 15) {
                int time = k;
                probe("sat(" + g + ", " + k + ")", x -> x.sat(guest, time));
            }
            for (int m = 0; m < 1440; m += 203) {
                int minute = m;
                probe("seat(" + m + ", " + g + ")", x -> x.seat(minute, guest));
                probe("given(" + m + ", " + g + ")", x -> x.given(minute, guest));
                probe("way(" + g + ", " + m + ", -1)", x -> x.way(guest, minute, -1));
                probe("way(" + g + ", " + m + ", 1)", x -> x.way(guest, minute, 1));
                probe("pilot(" + g + ", " + m + ", 1, 4)", x -> x.pilot(guest, minute, 1, 4));
            }
            probe("last(" + g + ")", x -> x.last(guest));
        }
        for (int m = 0; m < 1440; m += 17) {
            int minute = m;
            probe("level(" + m + ")", x -> x.level(minute));
            probe("hatch(" + m + ", 0)", x -> x.hatch(minute, 0));
        }
        for (int w = 0; w < 4; w++) {
            int what = w;
            probe("there(" + w + ")", x -> x.there(what));
        }
        probe("rafts()", TideGuests::rafts);
    }

    private static void like(String when, Past one, Past other) {
        for (int from = 0; from < PROBES.size(); from += CALLS) {
            TideGuests a = new TideGuests(4, 3);
            TideGuests b = new TideGuests(4, 3);
            one.of(a);
            other.of(b);
            for (int i = from; i < from + CALLS && i < PROBES.size(); i++) {
                Sentences.due(when + ": " + NAMES.get(i), PROBES.get(i).on(b), PROBES.get(i).on(a));
            }
        }
    }

    private static void tapeAndFault(String when, Past one, Past other) {
        TideGuests a = new TideGuests(4, 3);
        TideGuests b = new TideGuests(4, 3);
        one.of(a);
        other.of(b);
        Sentences.due(when + ": bytes of the tape", b.about(11), a.about(11));
        Sentences.due(when + ": fault(0)", b.fault(0), a.fault(0));
        Sentences.due(when + ": fault(1)", b.fault(1), a.fault(1));
        Sentences.due(when + ": text()", b.text(), a.text());
        Sentences.due(when + ": fault(0) of the tape", b.fault(0), a.fault(0));
        Sentences.due(when + ": fault(1) of the tape", b.fault(1), a.fault(1));
    }

    private static void bank(TideGuests x) {
        for (int c = 0; c < 12; c++) {
            x.cell(c, c * 7 % 40 + (c > 8 ? 50 : 0), c == 11 || c == 3);
        }
        x.inn(5);
        x.sky(-3, 4);
    }

    /** A house with some of all. */
    private static void some(TideGuests x) {
        bank(x);
        x.perch(30, 1);
        x.perch(10, 2);
        x.perch(44, 1);
        x.guest(5, 10, true, 2, 1, 10, 4);
        x.guest(9, 5, false, 3, 0, 5, 0);
        x.guest(5, 0, false, 0, 4, 20, 30);
        x.guest(0, 30, true, 9, 9, 1, 12);
        x.guest(7, 3, true, 1, 2, 3, 7);
        x.here(0, 8, true);
        x.here(3, 3, false);
        Sentences.law(x, "tide minute/9+wind-moon;bars with>0 and high>40;quarrel rank=other;bill wet*3+crabs;raft doors*77;");
        x.night(30, 500, 7);
        x.horse(120);
        x.horse(333);
        x.line(100, 1, 2);
        x.line(1300, 2, -1);
        x.image();
        x.guest(2, 2, false, 2, 2, 2, 2);
        x.perch(50, 2);
        x.cell(7, 60, false);
        x.sky(5, 1);
        x.horse(88);
        x.line(40, 4, 0);
        Sentences.tape(x, "tide 90-minute/7+wind;wish high*(minute-300)-with*50;bars fear=2;");
        x.text();
        x.by(1);
        x.here(5, 4, false);
        x.night(200, 900, 11);
        Sentences.tape(x, "tide 10000");
        x.text();
        Sentences.tape(x, "tide wind wind");
    }

    /** A house with as much of all as there can be. */
    private static void full(TideGuests x) {
        bank(x);
        for (int p = 0; p < 8; p++) {
            x.perch(10 + p * 7 % 40, 1 + p % 2);
        }
        for (int g = 0; g < 10; g++) {
            x.guest(g * 3 % 10, g * 2, g % 2 == 0, g, g % 4, 1 + g, 3 * g);
            x.here(g, g, g % 2 == 0);
        }
        for (int t = 0; t < 6; t++) {
            Sentences.law(x, "tide minute/" + (t + 8) + ";wish high-with*" + t + ";");
        }
        for (int h = 0; h < 7; h++) {
            x.horse(60 + 50 * h);
        }
        for (int i = 0; i < 12; i++) {
            x.line(100 * i, i % 5 * 2, x.seat(100 * i, i % 5 * 2));
        }
        x.night(0, 1439, 13);
        x.image();
        x.here(1, 7, true);
        x.here(0, 7, false);
        x.by(2);
        for (int i = 0; i < 15; i++) {
            x.feed(0x62617273, 0x20313c32, 0x3b0a2020, 0x20202020, 0x0a0a0a0a);
        }
        x.end(281);
    }

    private static void refused(Past house, String name, Call call, long answer) {
        Past then = x -> {
            house.of(x);
            Sentences.due(name, call.on(x), answer);
        };
        like("behind " + name, house, then);
        like("behind " + name + " and back()", and(house, TideGuests::back), and(then, TideGuests::back));
        tapeAndFault("behind " + name, house, then);
    }

    private static Past and(Past one, Past other) {
        return x -> {
            one.of(x);
            other.of(x);
        };
    }

    private static long no(boolean answer) {
        return answer ? 1 : 0;
    }

    private static void refusedBySome() {
        int min = Sentences.MIN;
        int max = Sentences.MAX;
        Past some = CallsBoundsTest::some;
        Sentences.sentence("HEIGHT and SHORE of a CELL: true. False for others.");
        int[][] cells = {{-1, 5}, {12, 5}, {5, -1}, {5, 100}, {min, 5}, {max, 5}, {5, min}, {5, max}, {64 + 5, 5}, {32 + 5, 5}};
        for (int[] c : cells) {
            refused(some, "cell(" + c[0] + ", " + c[1] + ", true)", x -> no(x.cell(c[0], c[1], true)), 0);
            refused(some, "cell(" + c[0] + ", " + c[1] + ", false)", x -> no(x.cell(c[0], c[1], false)), 0);
        }
        Sentences.sentence("THE INN's CELL: true. False for others.");
        for (int c : new int[] {-1, 12, 35, min, max}) {
            refused(some, "inn(" + c + ")", x -> no(x.inn(c)), 0);
        }
        Sentences.sentence("WIND and MOON: true. False for others.");
        int[][] skies = {{-10, 1}, {10, 1}, {1, -1}, {1, 10}, {min, 1}, {max, 1}, {1, min}, {1, max}};
        for (int[] s : skies) {
            refused(some, "sky(" + s[0] + ", " + s[1] + ")", x -> no(x.sky(s[0], s[1])), 0);
        }
        Sentences.sentence("A PERCH: its number. NONE for others, or if there are 8.");
        int[][] perches = {{-1, 1}, {100, 1}, {1, 0}, {1, 5}, {min, 1}, {max, 1}, {1, min}, {1, max}};
        for (int[] p : perches) {
            refused(some, "perch(" + p[0] + ", " + p[1] + ")", x -> x.perch(p[0], p[1]), -1);
        }
        Sentences.sentence("A GUEST: his number. NONE for others, or if there are 10.");
        int[] above = {10, 31, 10, 10, 21, 31};
        for (int i = 0; i < 6; i++) {
            for (int bad : new int[] {i == 4 ? 0 : -1, above[i], min, max}) {
                int[] a = {3, 3, 3, 3, 3, 3};
                a[i] = bad;
                refused(some, "guest with " + bad + " as number " + i, x -> x.guest(a[0], a[1], true, a[2], a[3], a[4], a[5]), -1);
            }
        }
        Sentences.sentence("CRABS of a GUEST, whether he is HERE: true. False for others.");
        int[][] heres = {{-1, 1}, {6, 1}, {9, 1}, {10, 1}, {1, -1}, {1, 100}, {min, 1}, {max, 1}, {1, min}, {1, max}};
        for (int[] h : heres) {
            refused(some, "here(" + h[0] + ", " + h[1] + ", true)", x -> no(x.here(h[0], h[1], true)), 0);
            refused(some, "here(" + h[0] + ", " + h[1] + ", false)", x -> no(x.here(h[0], h[1], false)), 0);
        }
        Sentences.sentence("The tape has its first n bytes alone: n. NONE, and nothing is done, if it has not so many, or n is below 0.");
        for (int n : new int[] {15, 16, 300, -1, min, max}) {
            refused(some, "end(" + n + ")", x -> x.end(n), -1);
        }
        Sentences.sentence("THE TEXT (NONE: none): true. False for others.");
        for (int t : new int[] {2, 5, 6, -2, min, max}) {
            refused(some, "by(" + t + ")", x -> no(x.by(t)), 0);
        }
        Sentences.sentence("A NIGHT: how many times they were SEATED. NONE for others.");
        int[][] nights = {{-1, 5, 1}, {5, 4, 1}, {5, 1440, 1}, {5, 9, 0}, {5, 9, 61}, {5, 9, -1}, {min, max, 1}, {5, 9, min}, {5, 9, max}};
        for (int[] n : nights) {
            refused(some, "night(" + n[0] + ", " + n[1] + ", " + n[2] + ")", x -> x.night(n[0], n[1], n[2]), -1);
        }
        Sentences.sentence("A HORSE: how many there are. NONE for others, or if there are 7.");
        for (int w : new int[] {0, 1000, -1, min, max}) {
            refused(some, "horse(" + w + ")", x -> x.horse(w), -1);
        }
        Sentences.sentence("A line of THE BOOK (perch NONE: THE FLOOR): how many there are. NONE for others, or if there are 12.");
        int[][] lines = {{-1, 0, 0}, {1440, 0, 0}, {5, -1, 0}, {5, 6, 0}, {5, 0, -2}, {5, 0, 4}, {5, 0, 8}, {min, 0, 0}, {5, max, 0}, {5, 0, max}};
        for (int[] n : lines) {
            refused(some, "line(" + n[0] + ", " + n[1] + ", " + n[2] + ")", x -> x.line(n[0], n[1], n[2]), -1);
        }
        Sentences.sentence("THE BANK shifts: all HEIGHTS together. NONE for others.");
        int[][] shifts = {{-1, 1}, {10000, 1}, {5, 0}, {5, 61}, {min, 1}, {max, 1}, {5, min}, {5, max}};
        for (int[] s : shifts) {
            refused(some, "shift(" + s[0] + ", " + s[1] + ")", x -> x.shift(s[0], s[1]), -1);
        }
    }

    private static void refusedByFull() {
        Past full = CallsBoundsTest::full;
        Sentences.sentence("A PERCH: its number. NONE for others, or if there are 8.");
        refused(full, "the ninth PERCH", x -> x.perch(50, 2), -1);
        Sentences.sentence("A GUEST: his number. NONE for others, or if there are 10.");
        refused(full, "the eleventh GUEST", x -> x.guest(5, 5, true, 5, 5, 5, 5), -1);
        Sentences.sentence("A HORSE: how many there are. NONE for others, or if there are 7.");
        refused(full, "the eighth HORSE", x -> x.horse(9), -1);
        Sentences.sentence("A line of THE BOOK (perch NONE: THE FLOOR): how many there are. NONE for others, or if there are 12.");
        refused(full, "the 13th line", x -> x.line(5, 2, -1), -1);
        Sentences.sentence("Twenty bytes come behind the tape, the highest of a first: how many it has. NONE, and none come, if there would be more "
            + "than 300.");
        refused(full, "feed behind 281 bytes", x -> x.feed(-1, -1, -1, -1, -1), -1);
        Past to300 = and(full, x -> x.end(280));
        refused(and(to300, x -> x.feed(0x20202020, 0, 0, 0, 0)), "feed behind 300 bytes", x -> x.feed(1, 1, 1, 1, 1), -1);
        Sentences.sentence("The tape (empty then) is a TEXT: its number. NONE: it has a FAULT; or (the tape stays) there are 6.");
        refused(full, "the seventh text", TideGuests::text, -1);
        refused(and(full, x -> x.end(3)), "a seventh text with a FAULT", TideGuests::text, -1);
    }

    private static void askingAlone() {
        Sentences.sentence("Nothing is promised beyond the answers and state changes described above");
        Past some = CallsBoundsTest::some;
        Call[] asks = {x -> x.level(77), x -> x.seat(1234, 1), x -> x.told(1, 3), x -> x.sat(1, 3), x -> x.way(2, 800, -1), x -> x.last(2),
            x -> x.pilot(1, 5, 2, 9), x -> x.given(70, -1), x -> x.given(70, 2), x -> x.hatch(400, 0), x -> x.hatch(900, 2),
            x -> x.there(1), x -> x.rafts(), x -> x.about(0), x -> x.fault(0), x -> x.image() * 0, x -> x.end(14)};
        for (int i = 0; i < asks.length; i++) {
            Call ask = asks[i];
            TideGuests once = new TideGuests(4, 3);
            some(once);
            long answer = ask.on(once);
            Past then = and(some, x -> Sentences.due("asked anew", ask.on(x) + ask.on(x), 2 * answer));
            like("behind call " + i + " that asks alone", some, then);
            tapeAndFault("behind call " + i + " that asks alone", some, then);
        }
    }

    private static void images() {
        Past some = CallsBoundsTest::some;
        Past full = CallsBoundsTest::full;
        Sentences.sentence("AN IMAGE: all as it is (the latest NIGHT, too), but the tape and the latest FAULT; TEXTS told behind it are gone behind "
            + "going back.");
        Past nothing = x -> { };
        like("the first IMAGE is the new object", nothing, and(x -> bank(x), x -> Sentences.due("back()", x.back(), 0)));
        Past changed = x -> {
            x.cell(1, 77, true);
            x.inn(7);
            x.sky(9, 9);
            x.perch(3, 3);
            x.guest(9, 1, true, 1, 1, 1, 1);
            x.here(1, 50, false);
            x.night(5, 1430, 60);
            x.horse(400);
            x.line(3, 0, -1);
            x.shift(77, 60);
            x.by(-1);
            Sentences.law(x, "tide 44;");
        };
        like("behind image(), all else and back()", some, and(some, and(x -> Sentences.due("image()", x.image(), 6),
            and(changed, x -> Sentences.due("back()", x.back(), 6)))));
        like("of a full house", full, and(full, and(x -> Sentences.due("image()", x.image(), 10),
            and(x -> x.by(0), and(x -> x.night(1, 2, 1), x -> Sentences.due("back()", x.back(), 10))))));
        like("it stays", and(some, TideGuests::back), and(some, and(TideGuests::back, and(changed, TideGuests::back))));
        like("back() twice", and(some, TideGuests::back), and(some, and(TideGuests::back, TideGuests::back)));
        like("a new image() alone holds", some, and(some, and(TideGuests::image, and(TideGuests::image, TideGuests::back))));
        tapeAndFault("back() leaves the tape and the FAULT", some, and(some, and(TideGuests::image, TideGuests::back)));
        TideGuests x = new TideGuests(4, 3);
        some(x);
        Sentences.due("TEXTS", x.about(7), 2);
        Sentences.due("no QUARRELS by the second text", x.told(0, 4), 0);
        Sentences.due("back()", x.back(), 5);
        Sentences.due("TEXTS behind back()", x.about(7), 1);
        Sentences.due("QUARRELS are back", x.told(0, 4) > 0, true);
        Sentences.due("the text told behind it", x.by(1), false);
        Sentences.due("THE TEXT", x.about(8), 0);
        Sentences.due("the tape stays", x.about(11), 14);
        Sentences.due("the FAULT stays", x.fault(0), 2);
        Sentences.due("its place, too", x.fault(1), 5);
        Sentences.due("the tape's FAULT", x.text(), -1);
        Sentences.due("is the latest then", x.fault(0), 1);
        Sentences.tape(x, "tide 33;");
        Sentences.due("the number is free", x.text(), 1);
        x.by(1);
        Sentences.due("another text has it", x.level(0), 33);
        Sentences.due("back() to the first text", x.back(), 5);
        Sentences.due("it is as it was", x.level(900), 100 - 3 - 4);
    }

    private static void faultyText() {
        Sentences.sentence("The tape (empty then) is a TEXT: its number. NONE: it has a FAULT; or (the tape stays) there are 6.");
        Past some = CallsBoundsTest::some;
        like("behind a text with a FAULT", some, and(some, x -> Sentences.due("text()", x.text(), -1)));
        TideGuests x = new TideGuests(2, 2);
        Sentences.tape(x, "tide");
        Sentences.due("a FAULT", x.text(), -1);
        Sentences.due("the tape is empty", x.about(11), 0);
        Sentences.due("an empty tape is a text", x.text(), 0);
        Sentences.tape(x, "tide 7;");
        Sentences.due("a right one", x.text(), 1);
        Sentences.due("the tape is empty", x.about(11), 0);
        Sentences.due("end(1) of it", x.end(1), -1);
        Sentences.due("feed", x.feed(0x3b3b3b3b, 0, 0, 0, 0), 20);
        Sentences.sentence("Of the latest text that was read: 0 its FAULT (0 without), 1 its place (NONE without). NONE for others, and ahead of any.");
        for (int what : new int[] {-1, 2, 3, Sentences.MIN, Sentences.MAX}) {
            Sentences.due("fault(" + what + ")", x.fault(what), -1);
        }
        Sentences.due("without", x.fault(0), 0);
        Sentences.due("no place", x.fault(1), -1);
        x.text();
        Sentences.due("; is none", x.fault(0), 1);
        Sentences.due("at the first byte", x.fault(1), 0);
        TideGuests y = new TideGuests(2, 2);
        y.feed(0, 0, 0, 0, 0);
        y.end(0);
        Sentences.due("ahead of any", y.fault(0), -1);
        Sentences.due("ahead of any", y.fault(1), -1);
    }

    private static void dearest() {
        Sentences.sentence("An object is used for at most 512 calls after it has been made");
        TideGuests x = new TideGuests(4, 3);
        full(x);
        for (int i = 0; i < 60; i++) {
            Sentences.due("sets, call " + i, x.there(0) >= 0, true);
            Sentences.due("a NIGHT, call " + i, x.night(0, 1439, 1), 1440);
        }
        TideGuests y = new TideGuests(2, 2);
        for (int i = 0; i < 511; i++) {
            Sentences.due("feed " + i, y.feed(0, 0, 0, 0, 0), i < 15 ? 20 * i + 20 : -1);
        }
        Sentences.due("the 512th call", y.about(11), 300);
    }

    public static void main(String[] args) {
        collectProbes();
        refusedBySome();
        refusedByFull();
        askingAlone();
        images();
        faultyText();
        dearest();
        Sentences.finish();
    }
}
