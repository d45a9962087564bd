/** Promises 1 to 5: a new object, the tape, texts, their faults and names. */
public final class TextTest {
    private static final String FIVE = "station a 1 1;station b 1 1;station c 1 1;station d 1 1;station e 1 1;";

    private static void newObject() {
        EggTrays x = new EggTrays();
        for (int what = 0; what <= 12; what++) {
            Check.due("new all(" + what + ")", x.all(what), 0);
        }
        Check.due("new fault(0)", x.fault(0), 0);
        Check.due("new fault(1)", x.fault(1), -1);
        Check.due("new row", x.row(0), -1);
        Check.due("new look", Check.look(x, 0, 0), Check.INDEX);
        Check.due("new fits", x.fits(), 1);
        Check.due("new text(0)", x.text(0), 0);
        Check.due("new text(1)", x.text(1), -2);
        Check.due("new back", x.back(), -1);
    }

    private static void tape() {
        EggTrays x = new EggTrays();
        for (int i = 1; i <= 40; i++) {
            Check.due("feed " + i, x.feed(0x20202020, 0x0a0a0a0a, 0x20200a0a, 0x20202020, 0x20202020), 20 * i);
        }
        Check.due("feed beyond 800", x.feed(0, 0, 0, 0, 0), -1);
        Check.due("text(801)", x.text(801), -2);
        Check.due("text(-1)", x.text(-1), -2);
        Check.due("text(MIN)", x.text(Integer.MIN_VALUE), -2);
        Check.due("text(800) of blanks", x.text(800), 0);
        Check.due("text(1) of no tape", x.text(1), -2);
        Check.due("feed again", x.feed(0x70617373, 0x3b616761, 0x696e2031, 0x3b232323, 0x23232323), 20);
        Check.due("the first 13 bytes alone", x.text(13), 2);
        Check.due("the tape is empty behind a text", x.feed(0xffffffff, 0x80000000, 0, 0, 0), 20);
        Check.due("byte 255", x.text(20), -1);
        Check.due("byte 255 is no token", x.fault(0), 1);
        Check.due("its place", x.fault(1), 0);
        Check.due("the tape is empty behind a fault", x.feed(0, 0, 0, 0, 0), 20);
        Check.due("-2 leaves the fault", x.text(21), -2);
        Check.due("the fault yet", x.fault(0), 1);
        Check.due("fault(2)", x.fault(2), -1);
        Check.due("fault(-1)", x.fault(-1), -1);
    }

    private static void faultLeavesAll() {
        EggTrays x = Check.told("station a 2 1 pan 3 9 0;guest g 0 9 wants a 1;law heap want;may eats m 1;");
        x.seconds(1);
        x.keep();
        x.put(0);
        x.count(0, 0, 2, 2);
        x.known(1);
        Check.due("a text with a fault", Check.tell(x, "station z 9 4;guest h 0;"), -1);
        Check.due("fault", x.fault(0), 1);
        Check.due("place", x.fault(1), 23);
        Check.due("stations stay", x.station(0, 0), 2);
        Check.due("portions stay", x.station(0, 2), 5);
        Check.due("second stays", x.all(4), 1);
        Check.due("counts stay", x.all(5), 1);
        Check.due("known stays", x.all(6), 1);
        Check.due("undo stays", x.all(7), 1);
        Check.due("law stays", x.law(0, 5, 0, 0, 0), 5);
        Check.due("image stays", x.back(), 1);
        x.put(0);
        Check.due("a good text", Check.tell(x, "\n station  z 9\n4 ; "), 1);
        Check.due("no fault", x.fault(0), 0);
        Check.due("no place", x.fault(1), -1);
        Check.due("second 0", x.all(4), 0);
        Check.due("no counts", x.all(5), 0);
        Check.due("all known", x.all(6), 0);
        Check.due("nothing to undo", x.undo(), -1);
        Check.due("no image", x.back(), -1);
        Check.due("no law", x.law(0, 5, 0, 0, 0), Long.MIN_VALUE);
        Check.due("no knots", x.all(3), 0);
        Check.due("no may", x.all(2), 0);
        Check.due("no guests", x.all(1), 0);
        Check.due("the station", x.station(0, 1), 4);
        EggTrays y = Check.told(FIVE);
        y.change(0, 4);
        Check.due("five again", Check.tell(y, FIVE), 5);
        Check.due("the row as at first", y.row(0), 0);
    }

    private static void cannotStand() {
        Check.fault(";", 1, 0);
        Check.fault("pass", 1, 4);
        Check.fault("pass  \n", 1, 7);
        Check.fault("pass;;", 1, 5);
        Check.fault("pass pass;", 1, 5);
        Check.fault("Pass;", 1, 0);
        Check.fault("pass;\t", 1, 5);
        Check.fault("station", 1, 7);
        Check.fault("station 1 1 1;", 1, 8);
        Check.fault("station abcdefg 1 1;", 1, 8);
        Check.fault("station station 1 1;", 1, 8);
        Check.fault("station want 1 1;", 1, 8);
        Check.fault("stations a 1 1;", 1, 0);
        Check.fault("station a 1;", 1, 11);
        Check.fault("station a 1 1 pan 1 1;", 1, 21);
        Check.fault("station a 1 1 pan 1 1 1 pan 1 1 1;", 1, 24);
        Check.fault("station a 1 1 cold;", 1, 18);
        Check.fault("station a 1 1 1;", 1, 14);
        Check.fault("guest g 1 1 wants;", 1, 17);
        Check.fault("guest g 1 1 wants size 1;", 1, 18);
        Check.fault("station a 1 1;guest g 1 1 wants a;", 1, 33);
        Check.fault("again;", 1, 5);
        Check.fault("close pass;", 1, 6);
        Check.fault("law pass 1;", 1, 4);
        Check.fault("law or 1;", 1, 4);
        Check.fault("law may 1;", 1, 4);
        Check.fault("may or m 1;", 1, 4);
        Check.fault("may may m 1;", 1, 4);
        Check.fault("law heap 1 2;", 1, 11);
        Check.fault("law heap want want;", 1, 14);
        Check.fault("law heap -1;", 1, 9);
        Check.fault("law heap 1 + not 1;", 1, 13);
        Check.fault("law heap 1 < not 1;", 1, 13);
        Check.fault("law heap 1 not 1;", 1, 11);
        Check.fault("law heap 1 < 2 < 3;", 1, 15);
        Check.fault("law heap 1 < = 3;", 1, 13);
        Check.fault("law heap 1 > < 3;", 1, 13);
        Check.fault("law heap 1 <=> 3;", 1, 13);
        Check.fault("law heap (1;", 1, 11);
        Check.fault("law heap (1", 1, 11);
        Check.fault("law heap 1);", 1, 10);
        Check.fault("law heap ();", 1, 10);
        Check.fault("law heap 1 and;", 1, 14);
        Check.fault("law heap wants;", 1, 9);
        Check.fault("law heap 1 # 2;", 1, 11);
        Check.fault("may heap m;", 1, 10);
        Check.fault("may m heap 1;", 1, 4);
        Check.fault("may heap room 1;", 1, 9);
    }

    private static void tooMuch() {
        Check.fault("station a 241 1;", 2, 10);
        Check.fault("station a 1 0;", 2, 12);
        Check.fault("station a 1 1 pan 0 1 0;", 2, 18);
        Check.fault("station a 1 1 pan 1 0 0;", 2, 20);
        Check.fault("station a 1 1 cold 3601;", 2, 19);
        Check.fault("station a 99999999999999999999999 1;", 2, 10);
        Check.fault("station a 4294967297 1;", 2, 10);
        Check.fault("guest g 0 0;", 2, 10);
        Check.fault("station a 1 1;guest g 0 1 wants a 0;", 2, 34);
        Check.fault("again 1801;", 2, 6);
        Check.fault("law heap 10000;", 2, 9);
        Check.fault(FIVE + "station a 1 1;", 2, FIVE.length());
        StringBuilder nine = new StringBuilder();
        for (int i = 0; i < 9; i++) {
            nine.append("guest ").append((char) ('a' + i)).append(" 0 1;");
        }
        Check.due("nine guests", Check.tell(new EggTrays(), nine.toString()), 9);
        Check.fault(nine + "guest;", 2, nine.length());
        String mays = "may heap a 1;may leave b 1;may eats c 1;may heap d 1;";
        Check.due("four mays", Check.tell(new EggTrays(), mays), 4);
        Check.fault(mays + "may", 2, mays.length());
        Check.due("eight open", Check.tell(new EggTrays(), "law heap ((((((((1))))))))+(1);"), 1);
        Check.fault("law heap (((((((((1)))))))));", 2, 17);
        StringBuilder sum = new StringBuilder("law heap 1");
        for (int i = 0; i < 31; i++) {
            sum.append("+1");
        }
        Check.due("63 knots and a not", Check.tell(new EggTrays(), sum.toString().replace("heap 1", "heap not 1") + ";"), 1);
        Check.due("63 knots and one", Check.tell(new EggTrays(), sum + ";may eats m(1);"), 2);
        Check.fault(sum + ";may eats m 1+1;", 2, sum.length() + 13);
        Check.fault(sum + "+1;", 2, sum.length() + 1);
        Check.fault(sum + ";law eats not room;", 2, sum.length() + 14);
        Check.fault(sum + "+1+9;", 2, sum.length() + 1);
        Check.fault(sum + ";law eats 1;may heap m not 1;", 2, sum.length() + 23);
        Check.fault(sum + ";law eats 1;may heap m ((1));", 2, sum.length() + 25);
        Check.fault(sum + " and 1 and 1;", 2, sum.length() + 5);
        Check.fault(sum + "<1 or 1;", 2, sum.length() + 1);
    }

    private static void told() {
        Check.fault("guest a 0 1;guest a 0 1;", 3, 18);
        Check.fault("again 1;again;", 3, 8);
        Check.fault("close 3600;close 1;", 3, 11);
        Check.fault("law leave 1;law leave;", 3, 16);
        Check.fault("may heap m 1;may eats m 1;", 3, 22);
        Check.fault("guest g 0 1 wants b 1;station b 1 1;", 4, 18);
        Check.fault("guest g 0 1 wants g 1;", 4, 18);
        Check.due("names of three kinds", Check.tell(new EggTrays(), "station a 1 1;guest a 0 1 wants a 1;may heap a 1;"), 3);
        Check.due("what needs no blanks", Check.tell(new EggTrays(), "station a1 1pan1 1 0cold1;law heap(1)<=2;law eats 1<>1and 2>=1;"), 3);
        Check.due("numbers with noughts ahead", Check.tell(new EggTrays(), "station a 000000000240 004;again 0001800;"), 2);
        Check.due("the bounds", Check.tell(new EggTrays(), "station a 240 4 pan 60 900 59 cold 3600;guest g 3599 20 wants a 9;again 1800;close 0;"), 4);
    }

    private static void nothingStays() {
        EggTrays x = Check.told("");
        String pans = "station a 9 4 pan 7 30 5 cold 3;station b 9 4 pan 7 30 5 cold 3;guest p 0 9 wants a 9 wants b 9;pass;again 9;close 9;law heap 1;";
        for (int i = 0; i < 3; i++) {
            Check.due("pans", Check.tell(x, pans), 7);
            x.seconds(100);
        }
        for (int i = 0; i < 2; i++) {
            Check.due("no pans", Check.tell(x, "station c 1 1;station d 1 1 pan 2 50 0;guest p 20 4 wants d 1;guest q 20 4 wants d 1;"), 4);
            Check.due("no pan", x.station(0, 2), -1);
            Check.due("nothing cold", x.station(0, 6), 0);
            Check.due("law", x.law(0, 1, 1, 1, 1), Long.MIN_VALUE);
            Check.due("wants", Check.look(x, 0, 3), 1);
            Check.due("waited without pass", x.waited(30), 1);
            x.seconds(100);
            Check.due("never cold", x.station(1, 6), 0);
            Check.due("filled without a close", x.station(1, 8), 1);
            Check.due("done without again", Check.look(x, 0, 0), 3);
            Check.due("nothing missed", Check.look(x, 1, 9), 0);
        }
    }

    private static void names() {
        EggTrays x = Check.told("station abcdef 1 1;station a 1 1;guest abcdef 0 1;guest z 0 1;may heap z 1;may heap aa 1;");
        Check.due("abcdef", x.named(0, Model.pack("abcdef")), 0);
        Check.due("abcdef by its bits", x.named(0, 1 << 25 | 2 << 20 | 3 << 15 | 4 << 10 | 5 << 5 | 6), 0);
        Check.due("a", x.named(0, 1 << 25), 1);
        Check.due("a, lowest", x.named(0, 1), -1);
        Check.due("guest abcdef", x.named(1, Model.pack("abcdef")), 0);
        Check.due("guest z", x.named(1, 26 << 25), 1);
        Check.due("guest a", x.named(1, 1 << 25), -1);
        Check.due("may z", x.named(2, 26 << 25), 0);
        Check.due("may aa", x.named(2, 1 << 25 | 1 << 20), 1);
        Check.due("none", x.named(0, 0), -1);
        Check.due("beyond six letters", x.named(0, 1 << 25 | 1 << 30), -1);
        Check.due("below 0", x.named(0, 1 << 25 | 1 << 31), -1);
        Check.due("kind 3", x.named(3, 1 << 25), -1);
        Check.due("kind -1", x.named(-1, 1 << 25), -1);
    }

    public static void main(String[] args) {
        newObject();
        tape();
        faultLeavesAll();
        cannotStand();
        tooMuch();
        told();
        nothingStays();
        names();
        Check.end();
    }
}
