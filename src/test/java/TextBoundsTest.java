/** The edges that the document's second term names: texts, tokens, faults, sums, LEVEL. */
public final class TextBoundsTest {
    private static String times(String s, int n) {
        return s.repeat(n);
    }

    private static void texts() {
        Sentences.sentence("TEXTS 0 .. 5: of up to 300 bytes");
        TideGuests x = new TideGuests(2, 2);
        for (int i = 0; i < 6; i++) {
            String text = "tide " + (100 + i) + ";";
            Sentences.tape(x, i == 5 ? text + times(" ", 300 - text.length()) : text);
            Sentences.due("bytes of the tape", x.about(11), i == 5 ? 300 : 9);
            Sentences.due("text " + i, x.text(), i);
        }
        for (int i = 0; i < 6; i++) {
            Sentences.due("by(" + i + ")", x.by(i), true);
            Sentences.due("LEVEL by " + i, x.level(7), 100 + i);
        }
        Sentences.due("by(6)", x.by(6), false);
        Sentences.tape(x, "tide 9;");
        Sentences.due("the seventh", x.text(), -1);
        Sentences.right("bars " + times("1+", 145) + "1<1;");
        Sentences.faulty("bars " + times("1+", 145) + "1<1;;", 1, 299);
        Sentences.faulty("tide " + times("1+", 147) + "1", 1, 300);
        Sentences.right(times(" ", 292) + "tide 1 ;");
        Sentences.right("tide " + times("0", 294) + ";");
        Sentences.faulty(times("x", 300), 1, 0);
        Sentences.faulty(times("9", 300), 1, 0);
        Sentences.faulty("tide " + times("9", 295), 2, 5);
        textAfterText();
        Sentences.due("300 bytes", Sentences.under(2, 2, "tide " + times("1+", 146) + "12;").level(0), 158);
    }

    /** What is read hangs on nothing that was read ahead of it. */
    private static void textAfterText() {
        String[] faults = {"bars " + times("1+", 145) + "1<1", "tide " + times("(", 8) + "1", "tide " + times("-", 8) + "rank;",
            "bars " + times("not ", 8) + "1;", times("bars 1<2;", 10) + "bars", "wish 1;wish 1;", "tide " + times("9", 295)};
        TideGuests x = new TideGuests(2, 2);
        for (int i = 0; i < 6; i++) {
            for (String fault : faults) {
                Sentences.tape(x, fault);
                Sentences.due("text() of \"" + fault + "\"", x.text(), -1);
            }
            Sentences.tape(x, "tide " + times("-", 8) + "1+" + times("(", 8) + i + times(")", 8) + ";" + times("bars 2<1;", 9));
            Sentences.due("text " + i + " behind seven with a FAULT", x.text(), i);
            x.by(i);
            Sentences.due("LEVEL by " + i, x.level(5), 1 + i);
        }
        TideGuests y = new TideGuests(2, 2);
        y.perch(50, 2);
        Sentences.plain(y, 1, 1);
        Sentences.law(y, "quarrel 1<2;bars 1<2;tide 9;wish 1;bill 5;raft 0;");
        y.horse(7);
        Sentences.due("barred", y.seat(0, 0), -1);
        Sentences.law(y, "bars 2<1;");
        Sentences.due("one clause, not barred", y.seat(0, 0), 0);
        Sentences.law(y, "quarrel 1<2;quarrel 1<2;");
        y.night(0, 0, 1);
        Sentences.due("QUARRELS", y.told(0, 4), 1);
        Sentences.law(y, "quarrel 2<1;");
        y.night(0, 0, 1);
        Sentences.due("one clause, no QUARRELS", y.told(0, 4), 0);
        Sentences.law(y, "");
        y.night(0, 0, 1);
        Sentences.due("an empty text, no QUARRELS", y.told(0, 4), 0);
        Sentences.due("no tide", y.level(360), 90);
        Sentences.due("no bill", y.told(0, 3), 0);
        Sentences.due("no raft", y.rafts(), 1);
        Sentences.due("no bars", y.seat(0, 1), 0);
    }

    private static void blanksAndLetters() {
        Sentences.sentence("TOKENS, blanks (32, 10) aside");
        Sentences.right("\n\n tide\n\n1\n;\n ");
        Sentences.right("bars(1)<2;");
        Sentences.right("bars not(1)<2and not 2<1or 1=1;");
        Sentences.faulty("ti de 1;", 1, 0);
        Sentences.faulty("tide 1 2;", 1, 7);
        Sentences.faulty("tide 1\n2;", 1, 7);
        Sentences.faulty("bars 1< =2;", 1, 8);
        Sentences.faulty("bars 1<\n=2;", 1, 8);
        for (int sign = 0; sign < 256; sign++) {
            boolean blank = sign == 32 || sign == 10;
            Sentences.faulty("tide 1;" + (char) sign, blank ? 0 : 1, blank ? -1 : 7);
            boolean goesOn = blank || sign == ';' || sign >= '0' && sign <= '9';
            int place = sign == ';' ? 7 : "+-*/".indexOf(sign) >= 0 ? 7 : 6;
            Sentences.faulty("tide 1" + (char) sign + ";", goesOn && sign != ';' ? 0 : 1, goesOn && sign != ';' ? -1 : place);
        }
        Sentences.sentence("letters a .. z, A .. Z one behind the other (one TOKEN)");
        Sentences.faulty("tidewish 1;", 1, 0);
        Sentences.faulty("tide windmoon;", 1, 5);
        Sentences.faulty("tideZ 1;", 1, 0);
        Sentences.faulty("Atide 1;", 1, 0);
        Sentences.faulty("TIDE 1;", 1, 0);
        Sentences.faulty("tide Wind;", 1, 5);
        Sentences.faulty("tide winD;", 1, 5);
        Sentences.faulty("tide win;", 1, 5);
        Sentences.faulty("tide winds;", 1, 5);
        Sentences.faulty("tide 1 foo;", 1, 7);
        Sentences.faulty("tide foo;", 1, 5);
        for (char beside : new char[] {'@', '[', '`', '{'}) {
            Sentences.faulty("tide" + beside + "1;", 1, 4);
            Sentences.faulty("tide wind" + beside + ";", 1, 9);
        }
        Sentences.right("tide1;wish2;");
        Sentences.faulty("tide wind2;", 1, 9);
    }

    private static void numbersAndSigns() {
        Sentences.sentence("digits likewise (NUMBERS, 0 .. 9999)");
        Sentences.is("0", 0);
        Sentences.is("9999", 9999);
        Sentences.is("0009999", 9999);
        Sentences.is("00000000000000000000000000000007", 7);
        Sentences.is("1234", 1234);
        Sentences.faulty("tide 1:;", 1, 6);
        Sentences.faulty("tide 1a;", 1, 6);
        Sentences.faulty("tide 1 0;", 1, 7);
        Sentences.sentence("<= >= < > = # + - * / ( ) ; (the longest)");
        int[][] pairs = {{1, 2}, {2, 2}, {3, 2}};
        for (int[] p : pairs) {
            Sentences.isSo(p[0] + "<=" + p[1], p[0] <= p[1]);
            Sentences.isSo(p[0] + ">=" + p[1], p[0] >= p[1]);
            Sentences.isSo(p[0] + "<" + p[1], p[0] < p[1]);
            Sentences.isSo(p[0] + ">" + p[1], p[0] > p[1]);
            Sentences.isSo(p[0] + "=" + p[1], p[0] == p[1]);
            Sentences.isSo(p[0] + "#" + p[1], p[0] != p[1]);
            for (String like : new String[] {"<=", ">=", "<", ">", "=", "#"}) {
                String ask = p[0] + like + p[1];
                boolean is = Sentences.so(ask);
                Sentences.isSo("not " + ask, !is);
                Sentences.isSo("not not " + ask, is);
                Sentences.isSo(ask + " and 1<2", is);
                Sentences.isSo("1<2 and " + ask, is);
                Sentences.isSo("2<1 or " + ask, is);
                Sentences.isSo(ask + " or 2<1", is);
            }
        }
        Sentences.faulty("bars 1<=>1;", 1, 8);
        Sentences.faulty("bars 1<>1;", 1, 7);
        Sentences.faulty("bars 1=<1;", 1, 7);
        Sentences.faulty("bars 1==1;", 1, 7);
        Sentences.faulty("bars 1<<1;", 1, 7);
        Sentences.faulty("bars 1<==1;", 1, 8);
        Sentences.faulty("bars 1!=1;", 1, 6);
        Sentences.faulty("bars 1<=", 1, 8);
        Sentences.faulty("bars 1>=", 1, 8);
        Sentences.faulty("bars 1<", 1, 7);
        Sentences.faulty("bars 1<>", 1, 7);
        Sentences.faulty("<=", 1, 0);
        TideGuests x = new TideGuests(2, 2);
        Sentences.tape(x, "bars 1<=1;");
        x.end(7);
        x.text();
        Sentences.due("a sign cut off is none", x.fault(1), 7);
        Sentences.tape(x, "tide 19;");
        x.end(6);
        x.text();
        Sentences.due("a digit cut off is none", x.fault(1), 6);
        Sentences.tape(x, "tide 1;wish");
        x.end(10);
        x.text();
        Sentences.due("a letter cut off is none", x.fault(1), 7);
    }

    private static void clauses() {
        Sentences.sentence("{CLAUSE}, 10 at most");
        Sentences.right("");
        Sentences.right("bars 1<2;");
        Sentences.right(times("quarrel 1<2;", 10));
        Sentences.right("tide 1;wish 1;bill 1;raft 1;" + times("bars 1<2;", 3) + times("quarrel 1<2;", 3));
        Sentences.faulty(times("quarrel 1<2;", 11), 6, 120);
        TideGuests x = Sentences.under(2, 2, times("bars 2<1;", 9) + "bars 1<2;");
        x.perch(5, 1);
        Sentences.plain(x, 0);
        Sentences.due("the tenth clause holds", x.seat(0, 0), -1);
        Sentences.sentence("tide SUM ; or wish SUM ; or bill SUM ; or raft SUM ; (each once) or bars EITHER ; or quarrel EITHER ;");
        Sentences.right("raft 1;bill 1;wish 1;tide 1;");
        Sentences.faulty("tide;", 1, 4);
        Sentences.faulty("tide 1 wish 1;", 1, 7);
        Sentences.faulty("tide 1=1;", 1, 6);
        Sentences.faulty("bars 1;", 1, 6);
        Sentences.faulty("quarrel;", 1, 7);
        Sentences.faulty("1;", 1, 0);
        Sentences.faulty("minute;", 1, 0);
        Sentences.faulty("and;", 1, 0);
        Sentences.faulty("bars 1<2;;", 1, 9);
        Sentences.sentence("EITHER: BOTH {or BOTH}. BOTH: ASK {and ASK}. ASK: not ASK, or SUM one of < <= > >= = # (unlike) SUM");
        Sentences.isSo("1<2 or 1<2 and 2<1", true);
        Sentences.isSo("2<1 and 1<2 or 1<2", true);
        Sentences.isSo("2<1 and (1)<2 or 2<1", false);
        Sentences.isSo("1<2 and 2<1 or 2<1 and 1<2", false);
        Sentences.isSo("not 1<2 or 1<2", true);
        Sentences.isSo("not 1<2 and 2<1", false);
        Sentences.isSo("not 2<1 and 2<1", false);
        Sentences.isSo("not not 1<2", true);
        Sentences.isSo("not not not 1<2", false);
        Sentences.isSo("1+1<3-0", true);
        Sentences.faulty("bars 1<2 or;", 1, 11);
        Sentences.faulty("bars 1<2 and or 1<2;", 1, 13);
        Sentences.faulty("bars not;", 1, 8);
        Sentences.faulty("bars (1<2);", 1, 7);
        Sentences.faulty("bars 1<2=1;", 1, 8);
        Sentences.faulty("bars 1<2 1<2;", 1, 9);
        Sentences.faulty("bars 1 not<2;", 1, 7);
        Sentences.faulty("bars 1<not 2;", 1, 7);
        Sentences.sentence("or and and look at both sides always");
        Sentences.isSo("1<2 or 1/0<2", true);
        Sentences.isSo("2<1 and 1/0<2", false);
    }

    private static void sums() {
        Sentences.sentence("SUM: PRODUCT {+ or - PRODUCT}. PRODUCT: ONE {* or / ONE}. ONE: NUMBER, NAME, ( SUM ), - ONE");
        Sentences.is("2+3*4", 14);
        Sentences.is("2*3+4", 10);
        Sentences.is("20-6/2", 17);
        Sentences.is("(2+3)*4", 20);
        Sentences.is("2*-3", -6);
        Sentences.is("-2*3", -6);
        Sentences.is("5--3", 8);
        Sentences.is("-(2-3)", 1);
        Sentences.is("--7", 7);
        Sentences.is("minute+7", 7);
        Sentences.faulty("tide ();", 1, 6);
        Sentences.faulty("tide +1;", 1, 5);
        Sentences.faulty("tide 1+*2;", 1, 7);
        Sentences.faulty("tide 2(3);", 1, 6);
        Sentences.faulty("tide (1;", 1, 7);
        Sentences.faulty("tide 1);", 1, 6);
        Sentences.faulty("tide -;", 1, 6);
        Sentences.sentence("From the left");
        Sentences.is("9-5-3", 1);
        Sentences.is("9-5+3", 7);
        Sentences.is("100/5/2", 10);
        Sentences.is("7/2*2", 6);
        Sentences.is("2*7/4", 3);
        Sentences.is("1-2*3-4", -9);
        Sentences.sentence("/ cuts towards 0, by 0 it is 0");
        Sentences.is("7/2", 3);
        Sentences.is("-7/2", -3);
        Sentences.is("7/-2", -3);
        Sentences.is("-7/-2", 3);
        Sentences.is("(0-1)/2", 0);
        Sentences.is("1/9999", 0);
        Sentences.is("7/0", 0);
        Sentences.is("-7/0", 0);
        Sentences.is("0/0", 0);
        Sentences.is("5/(3-3)+1", 1);
        Sentences.is("1000*1000/0", 0);
        Sentences.sentence("what is above 1000000 (below the same less) is that, at each step");
        Sentences.is("9999*100+99", 999999);
        Sentences.is("9999*100+100", 1000000);
        Sentences.is("9999*100+101", 1000000);
        Sentences.is("-9999*100-99", -999999);
        Sentences.is("-9999*100-100", -1000000);
        Sentences.is("-9999*100-101", -1000000);
        Sentences.is("1000*1000", 1000000);
        Sentences.is("1000*1001", 1000000);
        Sentences.is("-1000*1001", -1000000);
        Sentences.is("1000*1001-1", 999999);
        Sentences.is("1000*1000+1-1", 999999);
        Sentences.is("-1000*1000-1+1", -999999);
        Sentences.is("9999*9999/9999", 100);
        Sentences.is("9999*9999*9999*9999*9999", 1000000);
        Sentences.is("9999*9999*9999*-9999*9999", -1000000);
        Sentences.is("(-1000*1000)*(-1000*1000)", 1000000);
        Sentences.is("(1000*1000)*(1000*1000)/(1000*1000)", 1);
        Sentences.is("-(1000*1000)+(1000*1000)", 0);
        Sentences.is("1000*1000-(0-1000*1000)", 1000000);
    }

    private static void names() {
        Sentences.sentence("NAMES of tide: minute wind moon; of wish and bars: minute rank swim (1, 0) fear bag high (HIGH) level "
            + "(LEVEL) with (how many sit there already); of quarrel: minute rank fear other (RANK of the other one); of bill: "
            + "rank bag wet moves crabs; of raft: doors");
        String[] words = {"minute", "wind", "moon", "rank", "swim", "fear", "bag", "high", "level", "with", "other", "wet", "moves",
            "crabs", "doors"};
        String[] kinds = {"tide", "wish", "bars", "quarrel", "bill", "raft"};
        String[] own = {"minute wind moon", "minute rank swim fear bag high level with", "minute rank swim fear bag high level with",
            "minute rank fear other", "rank bag wet moves crabs", "doors"};
        for (int i = 0; i < kinds.length; i++) {
            for (String word : words) {
                boolean may = (" " + own[i] + " ").contains(" " + word + " ");
                boolean asks = i == 2 || i == 3;
                Sentences.faulty(kinds[i] + " " + word + (asks ? "=1;" : ";"), may ? 0 : 5, may ? -1 : kinds[i].length() + 1);
                Sentences.faulty(kinds[i] + " 1" + (asks ? "#" : "+") + word + ";", may ? 0 : 5, may ? -1 : kinds[i].length() + 3);
            }
            for (String word : new String[] {"tide", "wish", "bill", "raft", "bars", "quarrel", "or", "and", "foo", "Rank"}) {
                Sentences.faulty(kinds[i] + " " + word + ";", 1, kinds[i].length() + 1);
            }
        }
        TideGuests x = Sentences.under(2, 2, "tide 100*(wind+9)/2-moon+minute/100;");
        int[][] skies = {{-9, 0, 0, 0}, {9, 9, 1439, 905}, {0, 9, 99, 441}, {9, 0, 100, 901}};
        for (int[] s : skies) {
            x.sky(s[0], s[1]);
            Sentences.due("LEVEL by wind " + s[0] + ", moon " + s[1], x.level(s[2]), s[3]);
        }
        wishNames();
        quarrelAndBillNames();
    }

    private static void wishNames() {
        String[] asks = {"minute=77", "rank=6", "swim=1", "fear=5", "bag=4", "high=42", "level=154", "with=0"};
        String all = String.join(" and ", asks);
        TideGuests x = Sentences.under(2, 2, "tide minute*2;bars " + all + ";");
        x.perch(42, 2);
        x.guest(6, 0, true, 5, 4, 1, 0);
        x.guest(6, 0, true, 5, 4, 1, 0);
        Sentences.due("all is so", x.seat(77, 0), -1);
        Sentences.due("the minute isn't", x.seat(78, 0), 0);
        x.guest(7, 0, true, 5, 4, 1, 0);
        Sentences.seats("one sits there with another RANK", x, 77, 0, -1, 0);
        x.here(2, 0, false);
        x.guest(6, 0, false, 5, 4, 1, 0);
        Sentences.seats("who doesn't swim", x, 77, -1, -1, -2, 0);
        Sentences.law(x, "wish 10*with+high;");
        x.perch(45, 2);
        Sentences.seats("with by those who sit there", x, 0, 1, 1, -2, 0);
        Sentences.law(x, "wish swim*-high;");
        Sentences.seats("swim is 1 or 0", x, 0, 0, 0, -2, 1);
    }

    private static void quarrelAndBillNames() {
        TideGuests x = Sentences.under(2, 2, "quarrel minute=9 and rank=2 and fear=3 and other=5;");
        x.perch(5, 4);
        x.guest(5, 0, false, 8, 0, 1, 0);
        x.guest(2, 0, false, 3, 0, 1, 0);
        x.guest(2, 0, false, 4, 0, 1, 0);
        x.night(8, 10, 1);
        Sentences.due("one quarrels once", x.told(0, 4), 1);
        x.night(10, 20, 1);
        Sentences.due("at other minutes none does", x.told(0, 4), 0);
        TideGuests y = Sentences.under(2, 2, "tide minute;bars minute=2;bill rank*1000+bag*100+wet*10+moves+crabs*1000*10;");
        y.perch(0, 1);
        y.guest(3, 0, false, 0, 4, 1, 0);
        y.here(0, 7, true);
        y.night(0, 5, 1);
        Sentences.due("BILL", y.told(0, 3), 73452);
        TideGuests z = Sentences.under(2, 2, "raft (doors-2)*(3-doors)+doors/20*400;");
        z.horse(1);
        Sentences.due("none bears but the 20", z.rafts(), 20);
    }

    private static void faults() {
        Sentences.sentence("FAULTS, the first as TOKENS are come to, at the TOKEN's first byte (of the end at the length), of one the least");
        Sentences.faulty("tide 10000 10000", 2, 5);
        Sentences.faulty("tide rank+10000", 5, 5);
        Sentences.faulty("tide 10000+rank", 2, 5);
        Sentences.faulty("tide 1;tide rank;", 4, 7);
        Sentences.faulty("tide 1; ?tide 1;", 1, 8);
        Sentences.faulty("tide   quarrel", 1, 7);
        Sentences.faulty("tide", 1, 4);
        Sentences.faulty("tide\n\n  ", 1, 8);
        Sentences.faulty("wish", 1, 4);
        Sentences.faulty("bars not", 1, 8);
        Sentences.faulty("bars 1<2 or ", 1, 12);
        Sentences.faulty("bars 1<2 and", 1, 12);
        Sentences.faulty("bars 1<2 ", 1, 9);
        Sentences.faulty("bars 1 ", 1, 7);
        Sentences.faulty("bars 1<", 1, 7);
        Sentences.faulty("tide (1", 1, 7);
        Sentences.faulty("tide -", 1, 6);
        Sentences.faulty("tide 1+", 1, 7);
        Sentences.faulty("tide 1*", 1, 7);
        Sentences.faulty("tide 1 10000", 1, 7);
        Sentences.faulty("tide 1 rank;", 1, 7);
        Sentences.faulty("tide 1 tide", 1, 7);
        Sentences.faulty(times("bars 1<2;", 9) + "tide 1;tide", 4, 88);
        Sentences.faulty(times("bars 1<2;", 10) + "10000", 1, 90);
        Sentences.faulty("tide " + times("(", 8) + "1(", 1, 14);
        Sentences.faulty("tide " + times("(", 8) + "not", 1, 13);
        Sentences.sentence("1 it can't stand there, or is none");
        Sentences.faulty("$", 1, 0);
        Sentences.faulty("tide $", 1, 5);
        Sentences.faulty("tide 1$;", 1, 6);
        Sentences.faulty("bars 1<2$;", 1, 8);
        Sentences.faulty("tide 1+(2$);", 1, 9);
        Sentences.faulty("bars not$", 1, 8);
        Sentences.faulty(") tide", 1, 0);
        Sentences.sentence("2 a NUMBER above 9999");
        Sentences.right("tide 9999;");
        Sentences.faulty("tide 10000;", 2, 5);
        Sentences.faulty("tide 1+(10000);", 2, 8);
        Sentences.faulty("bars 1<  10000;", 2, 9);
        Sentences.faulty("tide 4294967296;", 2, 5);
        Sentences.faulty("tide 4294967297;", 2, 5);
        Sentences.faulty("tide 2147483648;", 2, 5);
        Sentences.faulty("tide 18446744073709551617;", 2, 5);
        Sentences.faulty("tide -10000;", 2, 6);
        Sentences.faulty("tide " + times("-", 8) + "10000;", 2, 13);
    }

    private static void deepFaults() {
        Sentences.sentence("3 the 9th of ( not and - (of one ONE) that are open around one another (at it)");
        Sentences.right("tide " + times("(", 8) + "1" + times(")", 8) + ";");
        Sentences.faulty("tide " + times("(", 9) + "1" + times(")", 9) + ";", 3, 13);
        Sentences.right("tide " + times("-", 8) + "1;");
        Sentences.faulty("tide " + times("-", 9) + "1;", 3, 13);
        Sentences.right("bars " + times("not ", 8) + "1<2;");
        Sentences.faulty("bars " + times("not ", 9) + "1<2;", 3, 37);
        Sentences.right("bars not not not(-(-(1)))<1 and not not not(-(-(1)))<1;");
        Sentences.right("bars not not not-(-(-1))<-(-(-1));");
        Sentences.faulty("bars not not not(-(-(-1)))<1;", 3, 21);
        Sentences.faulty("bars not not not 1<(-(-(-1)));", 3, 24);
        Sentences.right("bars not not not 1<(-(-(1)));");
        Sentences.right("bars " + times("not ", 8) + "1<2 and " + times("not ", 8) + "1<2 or " + times("not ", 8) + "1<2;");
        Sentences.right("tide " + times("(", 8) + "1" + times(")", 8) + "+" + times("(", 8) + "1" + times(")", 8) + ";");
        Sentences.right("tide " + times("-", 8) + "1+" + times("-", 8) + "1*" + times("-", 8) + "1;");
        Sentences.right("tide 1" + times("-1", 20) + ";");
        Sentences.right("tide " + times("(1-", 8) + "1" + times(")", 8) + ";");
        Sentences.right("tide " + times("(1-", 7) + "-1" + times(")", 7) + ";");
        Sentences.faulty("tide " + times("(1-", 8) + "-1" + times(")", 8) + ";", 3, 29);
        Sentences.right("tide " + times("-1*", 20) + "1;");
        Sentences.right("tide -(-(-(-1)))+-(-(-(-1)));");
        Sentences.faulty("tide -(-(-(-(-1))));", 3, 13);
        Sentences.right("bars " + times("not ", 8) + "1<2;bars " + times("not ", 8) + "1<2;");
        Sentences.right("wish " + times("-", 8) + "1;tide " + times("-", 8) + "1;");
        Sentences.faulty("tide " + times("(", 8) + "-", 3, 13);
        Sentences.faulty("bars " + times("not ", 8) + "(1", 3, 37);
        Sentences.faulty("bars " + times("not ", 8) + "-1", 3, 37);
        Sentences.faulty("bars " + times("not ", 8) + "1<-1", 3, 39);
        Sentences.faulty("bars " + times("not ", 8) + "1-1<1--1", 3, 43);
        Sentences.isSo(times("not ", 8) + "1<2", true);
        Sentences.isSo(times("not ", 7) + "1<2", false);
        Sentences.is(times("-", 7) + "5", -5);
        Sentences.is("1-(2-(3-(4-(5-(6-(7-(8-9)))))))", 5);
        Sentences.is("1+2*(1+2*(1+2*(1+2*(1+2*(1+2*(1+2*(1+2*3)))))))", 1023);
        Sentences.isSo("1=2 or not 1+1*(1+1*(1+1*(1+1*(1+1*(1+1*(1+1*2)))))) = 9 and 1=1", false);
        Sentences.isSo("1=2 or not not not not (1+(1+(1+(1+2)))) = (2+(1+(1+(1+1)))) and (1+(1+(1+2)))=5", true);
    }

    private static void wordFaults() {
        Sentences.sentence("4 a word that stands once for the second time (at it)");
        for (String word : new String[] {"tide", "wish", "bill", "raft"}) {
            Sentences.right(word + " 1;");
            Sentences.faulty(word + " 1;" + word + " 1;", 4, 7);
            Sentences.faulty(word + " 1; " + word, 4, 8);
            Sentences.faulty(word + " 1;bars 1<2;quarrel 1<2;" + word + " rank", 4, 28);
        }
        Sentences.right("bars 1<2;bars 1<2;");
        Sentences.right("quarrel 1<2;quarrel 1<2;");
        Sentences.sentence("5 a NAME that isn't of that CLAUSE (at it)");
        Sentences.faulty("bill minute;", 5, 5);
        Sentences.faulty("tide 1+2*(3-level);", 5, 12);
        Sentences.faulty("tide --rank;", 5, 7);
        Sentences.faulty("bars rank<wind;", 5, 10);
        Sentences.faulty("bars rank<1 and wet<1;", 5, 16);
        Sentences.faulty("raft doors;bill doors;", 5, 16);
        Sentences.faulty("wish other;", 5, 5);
        Sentences.faulty("quarrel swim=1;", 5, 8);
        Sentences.sentence("6 the 11th CLAUSE (at its first TOKEN)");
        Sentences.faulty(times("bars 1<2;", 10) + "bars 1<2;", 6, 90);
        Sentences.faulty(times("bars 1<2;", 10) + "  tide", 6, 92);
        Sentences.faulty(times("bars 1<2;", 10) + "quarrel rank", 6, 90);
        Sentences.faulty("tide 1;wish 1;bill 1;raft 1;" + times("bars 1<2;", 6) + "bars", 6, 82);
        Sentences.faulty("tide 1;wish 1;bill 1;raft 1;" + times("bars 1<2;", 6) + "raft", 4, 82);
        Sentences.faulty(times("bars 1<2;", 10) + ";", 1, 90);
        Sentences.right(times("bars 1<2;", 10) + " \n");
    }

    private static void levels() {
        Sentences.sentence("By THE TEXT (told; at first none)");
        TideGuests x = new TideGuests(2, 2);
        Sentences.due("THE TEXT at first", x.about(8), -1);
        Sentences.tape(x, "tide 5;");
        x.text();
        Sentences.due("a text that isn't THE TEXT", x.level(0), 0);
        x.by(0);
        Sentences.due("THE TEXT", x.level(0), 5);
        x.by(-1);
        Sentences.due("none", x.level(360), 90);
        Sentences.sentence("LEVEL of a MINUTE t: tide (0 at least, 999 at most; without: 90 less a quarter, cut, of how far t mod 720 "
            + "is from 360)");
        int[][] edges = {{-1000, 0}, {-1, 0}, {0, 0}, {1, 1}, {998, 998}, {999, 999}, {1000, 999}, {9999, 999}};
        for (int[] e : edges) {
            String sum = e[0] < 0 ? "0-" + -e[0] : "" + e[0];
            Sentences.due("tide " + sum, Sentences.under(2, 2, "tide " + sum + ";").level(77), e[1]);
        }
        Sentences.due("tide of a million", Sentences.under(2, 2, "tide 9999*9999;").level(77), 999);
        Sentences.due("tide of a million less", Sentences.under(2, 2, "tide -9999*9999;").level(77), 0);
        int[][] known = {{0, 0}, {1, 1}, {3, 1}, {4, 1}, {5, 2}, {359, 90}, {357, 90}, {356, 89}, {360, 90}, {363, 90}, {364, 89},
            {718, 1}, {719, 1}, {720, 0}, {721, 1}, {1080, 90}, {1438, 1}, {1439, 1}};
        TideGuests without = new TideGuests(2, 2);
        Sentences.levels(without, known);
        for (int from = 0; from < 1440; from += 480) {
            TideGuests y = from == 480 ? Sentences.under(2, 2, "wish 3;bars 1>2;quarrel 1<2;bill 1;raft 2;") : new TideGuests(2, 2);
            for (int t = from; t < from + 480; t++) {
                int t720 = t < 720 ? t : t - 720;
                int far = t720 < 360 ? 360 - t720 : t720 - 360;
                Sentences.due("level(" + t + ")", y.level(t), 90 - far / 4);
            }
        }
    }

    public static void main(String[] args) {
        texts();
        blanksAndLetters();
        numbersAndSigns();
        clauses();
        sums();
        names();
        faults();
        deepFaults();
        wordFaults();
        levels();
        Sentences.finish();
    }
}
