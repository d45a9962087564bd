/** The boundary cases of ==== 1 and of promises 1 to 5, sentence by sentence: at the boundary, one below and one above. */
public final class TextEdgesTest {
    private static final String[] WORDS = {"station", "pan", "cold", "guest", "wants", "pass", "again", "close", "law", "may", "heap", "leave",
        "eats", "or", "and", "not", "want", "room", "here", "age", "line", "late", "size", "taken"};
    private static final int BLANK = 0x20202020;

    private static void good(String text, int lines) {
        EggTrays x = new EggTrays();
        Check.due("text of [" + text + "]", Check.tell(x, text), lines);
        Check.due("fault of [" + text + "]", x.fault(0), 0);
        Check.due("place of [" + text + "]", x.fault(1), -1);
    }

    /** A number between two pieces of a text: from least to most it is fine, else it is too much. */
    private static void range(String ahead, int least, int most, String behind) {
        good(ahead + least + behind, 1 + ahead.length() - ahead.replace(";", "").length());
        good(ahead + most + behind, 1 + ahead.length() - ahead.replace(";", "").length());
        if (least > 0) {
            Check.fault(ahead + (least - 1) + behind, 2, ahead.length());
        } else {
            Check.fault(ahead + "-1" + behind, 1, ahead.length());
        }
        Check.fault(ahead + (most + 1) + behind, 2, ahead.length());
        Check.fault(ahead + "2147483648" + behind, 2, ahead.length());
        Check.fault(ahead + "4294967297" + behind, 2, ahead.length());
        Check.fault(ahead + "18446744073709551617" + behind, 2, ahead.length());
    }

    private static String stations(int n) {
        StringBuilder s = new StringBuilder();
        for (int i = 0; i < n; i++) {
            s.append("station ").append((char) ('a' + i)).append(" 1 1;");
        }
        return s.toString();
    }

    private static String guests(int n) {
        StringBuilder s = new StringBuilder();
        for (int i = 0; i < n; i++) {
            s.append("guest ").append((char) ('a' + i)).append(" 0 1;");
        }
        return s.toString();
    }

    private static String mays(int n) {
        StringBuilder s = new StringBuilder();
        for (int i = 0; i < n; i++) {
            s.append("may eats ").append((char) ('a' + i)).append(" 1;");
        }
        return s.toString();
    }

    /** "SECONDS 1 .. 240", "PLACES 1 .. 4" and so on. */
    private static void numbers() {
        range("station a ", 1, 240, " 1;");
        range("station a 1 ", 1, 4, ";");
        range("station a 1 1 pan ", 1, 60, " 1 0;");
        range("station a 1 1 pan 1 ", 1, 900, " 0;");
        range("station a 1 1 pan 1 1 ", 0, 59, ";");
        range("station a 1 1 cold ", 1, 3600, ";");
        range("station a 1 1 pan 1 1 0 cold ", 1, 3600, ";");
        range("guest g ", 0, 3599, " 1;");
        range("guest g 0 ", 1, 20, ";");
        range("station a 1 1;guest g 0 1 wants a ", 1, 9, ";");
        range("again ", 1, 1800, ";");
        range("close ", 0, 3600, ";");
        range("law heap ", 0, 9999, ";");
        range("may eats m 1+(2*", 0, 9999, ");");
    }

    /** What is told is what was in the text, at the least and at the most. */
    private static void bounds() {
        EggTrays least = Check.told("station a 1 1 pan 1 1 0 cold 1;guest g 0 1 wants a 1;again 1;close 0;");
        Check.due("1 second", least.station(0, 0), 1);
        Check.due("1 place", least.station(0, 1), 1);
        Check.due("1 portion", least.station(0, 2), 1);
        Check.due("size 1", Check.look(least, 0, 2), 1);
        Check.due("wants 1", Check.look(least, 0, 3), 1);
        EggTrays most = Check.told("station a 240 4 pan 60 900 59 cold 3600;guest g 3599 20 wants a 9;again 1800;close 3600;");
        Check.due("240 seconds", most.station(0, 0), 240);
        Check.due("4 places", most.station(0, 1), 4);
        Check.due("60 portions", most.station(0, 2), 60);
        Check.due("size 20", Check.look(most, 0, 2), 20);
        Check.due("wants 9", Check.look(most, 0, 3), 9);
    }

    /** "STATIONS, at most 5", "GUESTS, at most 9", "at most 4" may: one more is too much, at the word of the line. */
    private static void howMany() {
        for (int n = 0; n <= 5; n++) {
            good(stations(n), n);
            Check.due("stations", Check.told(stations(n)).all(0), n);
        }
        Check.fault(stations(6), 2, stations(5).length());
        Check.fault(stations(5) + " station", 2, stations(5).length() + 1);
        Check.fault(stations(5) + "station a 0 0;", 2, stations(5).length());
        for (int n = 0; n <= 9; n++) {
            good(guests(n), n);
            Check.due("guests", Check.told(guests(n)).all(1), n);
        }
        Check.fault(guests(10), 2, guests(9).length());
        Check.fault(guests(9) + "\nguest a", 2, guests(9).length() + 1);
        for (int n = 0; n <= 4; n++) {
            good(mays(n), n);
            Check.due("mays", Check.told(mays(n)).all(2), n);
        }
        Check.fault(mays(5), 2, mays(4).length());
        Check.fault(mays(4) + "may may", 2, mays(4).length());
        Check.fault(mays(3) + "may may", 1, mays(3).length() + 4);
        good(stations(5) + guests(9) + mays(4) + "law heap 1;law leave 1;law eats 1;pass;again 1;close 1;", 24);
    }

    /** "W: one of 1 .. 6 letters, none of those of the language"; "a word of more than 6 letters, too". */
    private static void words() {
        good("station a 1 1;", 1);
        good("station abcdef 1 1;", 1);
        good("station zzzzzz 1 1;", 1);
        Check.fault("station abcdefg 1 1;", 1, 8);
        Check.fault("station abcdefghijklmnopqrstuvwxyz 1 1;", 1, 8);
        Check.fault("station 1 1;", 1, 8);
        Check.fault("guest abcdefg 1 1;", 1, 6);
        Check.fault("may heap abcdefg 1;", 1, 9);
        Check.fault("station abcdef 1 1;guest g 0 1 wants abcdefg 1;", 1, 37);
        Check.fault("abcdefg", 1, 0);
        Check.fault("law heap abcdefg;", 1, 9);
        for (String word : WORDS) {
            Check.fault("station " + word + " 1 1;", 1, 8);
            Check.fault("guest " + word + " 1 1;", 1, 6);
            Check.fault("guest g 1 1 wants " + word + " 1;", 1, 18);
            Check.fault("may heap " + word + " 1;", 1, 9);
            if (word.length() < 6) {
                good("station " + word + "z 1 1;", 1);
            }
            good("station z" + word.substring(1, Math.min(6, word.length())) + " 1 1;", 1);
        }
    }

    /** "Blanks 10, 32"; small letters; digits: the bytes right beside them are no tokens. */
    private static void bytes() {
        for (int b = 0; b < 256; b++) {
            String text = "pass" + (char) b + ";";
            boolean letter = b >= 'a' && b <= 'z';
            if (b == 10 || b == 32) {
                good(text, 1);
                good((char) b + "pass;" + (char) b, 1);
                good("" + (char) b, 0);
            } else if (b == ';') {
                Check.fault(text, 1, 5);
            } else {
                Check.fault(text, 1, letter ? 0 : 4);
                Check.fault("pass;" + (char) b, 1, 5);
            }
            String sign = "law heap 1" + (char) b + "1;";
            if ("+-*/<=>0123456789".indexOf(b) >= 0) {
                good(sign, 1);
            } else {
                Check.fault(sign, 1, b == 10 || b == 32 ? 11 : b == ';' ? 11 : 10);
            }
        }
    }

    /** "A = (or > behind <) right behind < or > belongs to it". */
    private static void signs() {
        String[] whole = {"<", "<=", "=", "<>", ">=", ">"};
        int[] less = {1, 1, 0, 1, 0, 0};
        int[] same = {0, 1, 1, 0, 1, 0};
        int[] more = {0, 0, 0, 1, 1, 1};
        for (int i = 0; i < whole.length; i++) {
            EggTrays x = Check.told("law heap want" + whole[i] + "room;");
            Check.due("1" + whole[i] + "2", x.law(0, 1, 2, 0, 0), less[i]);
            Check.due("2" + whole[i] + "2", x.law(0, 2, 2, 0, 0), same[i]);
            Check.due("3" + whole[i] + "2", x.law(0, 3, 2, 0, 0), more[i]);
            Check.due("one knot", x.all(3), 3);
        }
        Check.fault("law heap 1< =1;", 1, 12);
        Check.fault("law heap 1> =1;", 1, 12);
        Check.fault("law heap 1< >1;", 1, 12);
        Check.fault("law heap 1=<1;", 1, 11);
        Check.fault("law heap 1=>1;", 1, 11);
        Check.fault("law heap 1==1;", 1, 11);
        Check.fault("law heap 1><1;", 1, 11);
        Check.fault("law heap 1>>1;", 1, 11);
        Check.fault("law heap 1<<1;", 1, 11);
        Check.fault("law heap 1<>=1;", 1, 12);
        Check.fault("law heap 1<==1;", 1, 12);
        Check.fault("law heap 1<", 1, 11);
        Check.fault("law heap 1<=", 1, 12);
    }

    /** "a ninth '(' open". */
    private static void open() {
        for (int n = 0; n <= 8; n++) {
            good("law heap " + "(".repeat(n) + "1" + ")".repeat(n) + ";", 1);
        }
        Check.fault("law heap " + "(".repeat(9) + "1" + ")".repeat(9) + ";", 2, 17);
        Check.fault("law heap " + "( ".repeat(9), 2, 25);
        Check.fault("law heap " + "not(".repeat(9), 2, 44);
        good("law heap " + "(1)+".repeat(12) + "((((((((1))))))));", 1);
        good("law heap ((((((((1)+(1)))))))+(((((((1))))))));", 1);
        Check.fault("law heap (((((((1+1)))))))+(((((((((1", 2, 35);
        Check.fault("law heap ((((((((1(", 1, 18);
        good("law heap ((((((((1))))))));law eats ((((((((1))))))));", 2);
    }

    private static void knots(String e, int due) {
        EggTrays x = Check.told("law leave " + e + ";");
        Check.due("knots of [" + e + "]", x.all(3), due);
    }

    /** "a 65th KNOT of all E (N, NAMES, signs, not, and, or: one each)". */
    private static void manyKnots() {
        knots("1", 1);
        knots("want", 1);
        knots("((1))", 1);
        knots("not 1", 2);
        knots("1 and 2 or 3", 5);
        knots("1<=2", 3);
        knots("1+2-3*4/5", 9);
        String sixty = "law heap 1" + "+1".repeat(29) + ";law eats not not not 1;";
        String full = "law heap 1" + "+1".repeat(31) + ";law eats 1";
        good(full + ";", 2);
        Check.due("64 knots", Check.told(full + ";").all(3), 64);
        for (String sign : new String[] {"+", "-", "*", "/", "<", "<=", "=", "<>", ">=", ">", " and ", " or "}) {
            int blank = sign.startsWith(" ") ? 1 : 0;
            Check.fault(full + sign + "1;", 2, full.length() + blank);
        }
        String room = "law heap 1" + "+1".repeat(31) + ";may eats m ";
        int at = room.length();
        good(room + "1;", 2);
        good(room + "9999;", 2);
        good(room + "taken;", 2);
        good(room + "((1));", 2);
        Check.fault(room + "not 1;", 2, at + 4);
        Check.fault(room + "not want;", 2, at + 4);
        Check.fault(room + "1;may eats n 1;", 2, at + 13);
        Check.fault(room + "1;may eats n want;", 2, at + 13);
        Check.fault(room + "1;may eats n not 1;", 2, at + 13);
        Check.fault(room + "1;may eats n (((1)));", 2, at + 16);
        Check.due("59 and 4", Check.told(sixty).all(3), 63);
        Check.due("a text anew counts from 0 on", retold(full + ";"), 2);
    }

    private static int retold(String text) {
        EggTrays x = Check.told(text);
        return Check.tell(x, text);
    }

    /** "FAULTS, the first along the text (of one place the least)". */
    private static void first() {
        Check.fault("station a 0 5;", 2, 10);
        Check.fault("station a 1 5;station a 0 5;", 2, 12);
        Check.fault("pass;pass;#", 3, 5);
        Check.fault("pass;#;pass;", 1, 5);
        Check.fault("guest g 0 1 wants a 0;", 4, 18);
        Check.fault("guest g 0 0 wants a 1;", 2, 10);
        Check.fault("law heap 1;law heap;", 3, 15);
        Check.fault("law heap 1;law", 1, 14);
        Check.fault("may heap a 1;may heap a", 3, 22);
        // Of one place: what can't stand there is no number, sign or knot too many.
        Check.fault("law heap 1 10000;", 1, 11);
        Check.fault("pass 99999;", 1, 5);
        Check.fault("station 99999 1 1;", 1, 8);
        String full = "law heap 1" + "+1".repeat(31) + ";law eats 1";
        Check.fault(full + " 1;", 1, full.length() + 1);
        Check.fault(full + " want;", 1, full.length() + 1);
        Check.fault(full + " not 1;", 1, full.length() + 1);
        Check.fault(full + " (;", 1, full.length() + 1);
        Check.fault(full + " ) + 1;", 1, full.length() + 1);
        String open = "law heap 1" + "+1".repeat(31) + ";may eats m 1<";
        Check.fault(open, 2, open.length() - 1);
        Check.fault("law heap 1" + "+1".repeat(30) + "+1<1<1;", 2, 73);
        Check.fault("law heap 1<1<1" + "+1".repeat(40) + ";", 1, 12);
    }

    /** "or can't stand there (the length, if more must come)": every beginning of a text that is none. */
    private static void length() {
        String[] tokens = {"station", " ", "a", " ", "3", " ", "1", " ", "pan", " ", "4", " ", "9", " ", "1", " ", "cold", " ", "5", ";",
            "guest", " ", "g", " ", "0", " ", "3", " ", "wants", " ", "a", " ", "2", ";", "pass", ";", "again", " ", "5", ";", "close", " ", "9", ";",
            "law", " ", "leave", " ", "not", " ", "(", "want", "+", "1", ")", "<=", "3", "*", "room", " ", "and", " ", "1", ";",
            "may", " ", "heap", " ", "m", " ", "1", "/", "2", " ", "or", " ", "here", "<>", "0", ";"};
        StringBuilder s = new StringBuilder();
        int lines = 0;
        for (String token : tokens) {
            s.append(token);
            lines += token.equals(";") ? 1 : 0;
            String end = s.toString();
            if (token.equals(";")) {
                good(end, lines);
                good(end + " \n ", lines);
            } else {
                Check.fault(end, 1, end.length());
                Check.fault(end + "\n ", 1, end.length() + 2);
            }
        }
        Check.due("all lines", lines, 7);
    }

    /** "3 told already": of its kind; "4 a STATION that isn't told ahead (at W)". */
    private static void told() {
        good("station a 1 1;guest a 0 1;may heap a 1;", 3);
        Check.fault("station a 1 1;station b 1 1;station a 1 1;", 3, 36);
        Check.fault("guest a 0 1;station a 1 1;guest b 0 1;guest a 0 1;", 3, 44);
        Check.fault("may heap a 1;may leave a 1;", 3, 23);
        good("station a 1 1;station ab 1 1;station aa 1 1;", 3);
        good("pass;", 1);
        Check.fault("pass;station a 1 1; pass ;", 3, 20);
        Check.fault("again 5;pass;again 5;", 3, 13);
        Check.fault("close 5;pass;close 5;", 3, 13);
        Check.fault("close 0;close 0;", 3, 8);
        Check.fault("close 3600;close", 3, 11);
        for (String kind : new String[] {"heap", "leave", "eats"}) {
            good("law " + kind + " 1;may " + kind + " a 1;may " + kind + " b 1;", 3);
            Check.fault("law " + kind + " 1;law " + kind + " 1;", 3, 11 + kind.length());
        }
        good("law heap 1;law leave 1;law eats 1;", 3);
        good(stations(5) + "guest g 0 1 wants e 1 wants d 1 wants c 1 wants b 1 wants a 1;", 6);
        Check.fault(stations(5) + "guest g 0 1 wants e 1 wants d 1 wants c 1 wants b 1 wants a 1 wants c 1;", 3, stations(5).length() + 68);
        Check.fault(stations(5) + "guest g 0 1 wants e 1 wants e 1;", 3, stations(5).length() + 28);
        good(stations(1) + "guest g 0 1 wants a 1;guest h 0 1 wants a 1;", 3);
        Check.fault("guest g 0 1 wants a 1;station a 1 1;", 4, 18);
        Check.fault("station b 1 1;guest g 0 1 wants a 1;", 4, 32);
        Check.fault("station a 1 1;guest g 0 1 wants aa 1;", 4, 32);
        Check.fault("guest a 0 1 wants a 1;", 4, 18);
    }

    /** "Twenty bytes come behind the TAPE .. NONE, and none come, if it would have more than 800." */
    private static void feed() {
        EggTrays x = new EggTrays();
        for (int i = 1; i <= 40; i++) {
            Check.due("feed " + i, x.feed(BLANK, BLANK, BLANK, BLANK, BLANK), 20 * i);
        }
        Twins.Deed full = y -> {
            Twins.BUSY.on(y);
            for (int i = 0; i < 39; i++) {
                y.feed(BLANK, BLANK, BLANK, BLANK, BLANK);
            }
            return 0;
        };
        Twins.leavesAll("feed beyond 800", full, y -> y.feed(0, 0, 0, 0, 0), -1);
        Twins.leavesAll("feed beyond 800", full, y -> y.feed(-1, 1, Integer.MIN_VALUE, Integer.MAX_VALUE, 7), -1);
        // The highest first: "again 7;" and twelve blanks.
        EggTrays z = new EggTrays();
        Check.due("feed", z.feed(0x61676169, 0x6e20373b, BLANK, BLANK, BLANK), 20);
        Check.due("eight bytes", z.text(8), 1);
        EggTrays w = new EggTrays();
        for (int i = 0; i < 39; i++) {
            w.feed(BLANK, BLANK, BLANK, BLANK, BLANK);
        }
        Check.due("the last twenty", w.feed(BLANK, BLANK, BLANK, 0x20202070, 0x6173733b), 800);
        Check.due("all 800", w.text(800), 1);
        EggTrays v = new EggTrays();
        for (int i = 0; i < 40; i++) {
            v.feed(BLANK, BLANK, BLANK, BLANK, 0x20202023);
        }
        Check.due("the first 19", v.text(19), 0);
    }

    /** "-2, and the TAPE stays: there are not so many, n is below 0"; "(it is empty then)"; "NONE with a FAULT, all stays". */
    private static void text() {
        for (int n : new int[] {-1, -2, Integer.MIN_VALUE, 21, 22, 800, 801, Integer.MAX_VALUE}) {
            Twins.leavesAll("text(" + n + ")", Twins.BUSY, y -> y.text(n), -2);
        }
        for (int n : new int[] {-1, 1, 20}) {
            Twins.leavesAll("text(" + n + ") of an empty tape", Twins.NOTHING, y -> y.text(n), -2);
        }
        // 20 bytes on the tape of BUSY: "pass;again 9;" and blanks.
        int[] lines = {0, -1, -1, -1, -1, 1, -1, -1, -1, -1, -1, -1, -1, 2, 2, 2, 2, 2, 2, 2, 2};
        for (int n = 0; n <= 20; n++) {
            EggTrays x = new EggTrays();
            Twins.BUSY.on(x);
            Check.due("text(" + n + ")", x.text(n), lines[n]);
            Check.due("the tape is empty behind text(" + n + ")", x.feed(BLANK, BLANK, BLANK, BLANK, BLANK), 20);
        }
        EggTrays none = new EggTrays();
        Check.due("no bytes of no tape", none.text(0), 0);
        Check.due("no fault", none.fault(0), 0);
    }

    private static void anew() {
        EggTrays x = new EggTrays();
        Twins.BUSY.on(x);
        Check.due("a text of no lines", x.text(0), 0);
        EggTrays fresh = new EggTrays();
        Check.due("is as a new object's", Twins.seen(x).equals(Twins.seen(fresh)), true);
        Check.due("no image", x.back(), -1);
        Check.due("nothing to undo", x.undo(), -1);
        EggTrays y = new EggTrays();
        Twins.BUSY.on(y);
        Check.tell(y, "");
        Check.tell(y, Twins.BUSY_TEXT);
        Check.due("told anew", Twins.seen(y).equals(Twins.seen(Check.told(Twins.BUSY_TEXT))), true);
        Check.due("all known", y.count(0, 0, 0, 0), 0);
        Check.due("also those to come", y.all(6), 1);
    }

    /** A text with a fault leaves all but the tape and what fault() says. */
    private static void faultLeavesAll() {
        for (String wrong : new String[] {"station z 1 1;guest g 0 1 wants z 1;pass", "law heap 1;law heap 2;", "station a 9 5;", "guest y 0 1 wants y 1;"}) {
            Twins.Deed past = y -> {
                Twins.BUSY.on(y);
                y.text(20 - 1);
                Twins.BUSY.on(y);
                y.text(3);
                return Check.tell(y, wrong);
            };
            Twins.leavesAll("[" + wrong + "] once more", past, y -> Check.tell(y, wrong), -1);
        }
        EggTrays x = new EggTrays();
        Twins.BUSY.on(x);
        EggTrays twin = new EggTrays();
        Twins.BUSY.on(twin);
        Check.due("a fault", x.text(4), -1);
        java.util.List<Long> seen = Twins.seen(x);
        java.util.List<Long> twins = Twins.seen(twin);
        Check.due("its kind", seen.get(0), 1);
        Check.due("its place", seen.get(1), 4);
        Check.due("all else stays", seen.subList(2, seen.size()).equals(twins.subList(2, twins.size())), true);
        Check.due("the image stays", x.back(), 7);
    }

    /** "Of the latest text() that was not -2 .. NONE for another what." */
    private static void fault() {
        EggTrays x = new EggTrays();
        Check.due("without a text", x.fault(0), 0);
        Check.due("without a text", x.fault(1), -1);
        Check.tell(x, "station a 0 1;");
        Check.due("fault", x.fault(0), 2);
        Check.due("place", x.fault(1), 10);
        x.text(1);
        x.text(-1);
        Check.due("-2 leaves it", x.fault(0), 2);
        Check.due("-2 leaves it", x.fault(1), 10);
        x.text(0);
        Check.due("none", x.fault(0), 0);
        Check.due("none", x.fault(1), -1);
        for (int what : new int[] {-1, 2, Integer.MIN_VALUE, Integer.MAX_VALUE}) {
            Twins.leavesAll("fault(" + what + ")", Twins.BUSY, y -> y.fault(what), -1);
        }
        Twins.leavesAll("fault(0)", Twins.BUSY, y -> y.fault(0), 0);
        Twins.leavesAll("fault(1)", Twins.BUSY, y -> y.fault(1), -1);
    }

    /** "by its letters, 5 bits each (a is 1; the first one highest of six, 0 behind the last one); NONE: there is none such". */
    private static void named() {
        EggTrays x = Check.told("station a 1 1;station zzzzzz 1 1;station ab 1 1;guest z 0 1;may eats az 1;");
        int z = 26;
        int six = z << 25 | z << 20 | z << 15 | z << 10 | z << 5 | z;
        Check.due("a", x.named(0, 1 << 25), 0);
        Check.due("zzzzzz", x.named(0, six), 1);
        Check.due("ab", x.named(0, 1 << 25 | 2 << 20), 2);
        Check.due("z", x.named(1, z << 25), 0);
        Check.due("az", x.named(2, 1 << 25 | z << 20), 0);
        int[] none = {0, 1, 2 << 25, 1 << 25 | 1, 1 << 25 | 1 << 20, 1 << 25 | 2 << 15, six - 1, six + 1, z << 25 | z << 20, six | 1 << 30, six | 1 << 31,
            1 << 25 | 1 << 30, 1 << 25 | 1 << 31, 27 << 25, -1, Integer.MIN_VALUE, Integer.MAX_VALUE};
        for (int letters : none) {
            for (int what = 0; what < 3; what++) {
                Check.due("named(" + what + ", " + letters + ")", x.named(what, letters), -1);
            }
        }
        for (int what : new int[] {-1, 3, Integer.MIN_VALUE, Integer.MAX_VALUE}) {
            Check.due("named(" + what + ")", x.named(what, 1 << 25), -1);
            Twins.leavesAll("named(" + what + ")", Twins.BUSY, y -> y.named(what, 1 << 25), -1);
        }
        Twins.leavesAll("named(0)", Twins.BUSY, y -> y.named(0, 1 << 25), 0);
        Check.due("of a new object", new EggTrays().named(0, 0), -1);
        EggTrays fewer = Check.told("station a 1 1;station b 1 1;guest a 0 1;may eats a 1;");
        Check.tell(fewer, "station c 1 1;");
        Check.due("none of a text ahead", fewer.named(0, 1 << 25), -1);
        Check.due("none of a text ahead", fewer.named(0, 2 << 25), -1);
        Check.due("none of a text ahead", fewer.named(1, 1 << 25), -1);
        Check.due("none of a text ahead", fewer.named(2, 1 << 25), -1);
    }

    /** Promise 1: "A TEXT without LINES; an empty TAPE." */
    private static void newObject() {
        EggTrays x = new EggTrays();
        Check.due("NONE", EggTrays.NONE, -1);
        Check.due("no stations, guests, mays, knots", x.all(0) + x.all(1) + x.all(2) + x.all(3), 0);
        Check.due("an empty tape", x.text(1), -2);
        Check.due("an empty tape", x.feed(BLANK, BLANK, BLANK, BLANK, BLANK), 20);
        Check.due("3600 seconds", new EggTrays().waited(3600), 0);
        EggTrays one = new EggTrays();
        Twins.BUSY.on(one);
        EggTrays other = new EggTrays();
        Check.due("objects are apart", Twins.seen(other).equals(Twins.seen(new EggTrays())), true);
        Check.due("objects are apart", one.all(0), 3);
    }

    public static void main(String[] args) {
        newObject();
        numbers();
        bounds();
        howMany();
        words();
        bytes();
        signs();
        open();
        manyKnots();
        first();
        length();
        told();
        feed();
        text();
        anew();
        faultLeavesAll();
        fault();
        named();
        Check.end();
    }
}
