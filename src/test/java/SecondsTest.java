/** Promises 6 to 10 and the second by second of the terms, worked out by hand. */
public final class SecondsTest {
    private static void look(EggTrays x, String when, int guest, int... due) {
        for (int what = 0; what < due.length; what++) {
            Check.due(when + " look(" + guest + ", " + what + ")", Check.look(x, guest, what), due[what]);
        }
    }

    private static void station(EggTrays x, String when, int station, int... due) {
        for (int what = 0; what < due.length; what++) {
            Check.due(when + " station(" + station + ", " + what + ")", x.station(station, what), due[what]);
        }
    }

    private static void oneTakesOneWaits() {
        EggTrays x = Check.told("station a 3 1;guest p 0 5 wants a 2;guest q 0 5 wants a 1;");
        look(x, "at first", 0, 0, -1, 5, 2, 0, 0, 0, 0, 0, 0, 0);
        Check.due("3 seconds", x.seconds(3), 3);
        look(x, "second 3", 0, 1, 0, 3, 0, 0, 0, 2, 0, 0, 0, 1);
        look(x, "second 3", 1, 1, 0, 5, 1, 0, 3, 0, 0, 0, 0, 1);
        Check.due("line(0)", x.line(0), 0);
        Check.due("line(1)", x.line(1), 1);
        Check.due("line(2)", x.line(2), -1);
        Check.due("line(-1)", x.line(-1), -1);
        x.seconds(1);
        look(x, "second 4", 0, 3, -1, 5, 0, 0, 0, 2, 2, 0, 0, 1);
        look(x, "second 4", 1, 1, 0, 4, 0, 2, 3, 1, 0, 0, 0, 1);
        Check.due("line(0)", x.line(0), 1);
        station(x, "second 4", 0, 3, 1, -1, 0, -1, 3, 0, 0, 0, 0);
        x.seconds(2);
        look(x, "second 6", 1, 1, 0, 4, 0, 0, 3, 1, 0, 0, 0, 1);
        x.seconds(1);
        look(x, "second 7", 1, 3, -1, 5, 0, 0, 3, 1, 1, 0, 0, 1);
        Check.due("nobody", x.line(0), -1);
    }

    private static void wrongInputs() {
        EggTrays x = Check.told("station a 3 1;guest p 0 5 wants a 2;");
        Check.due("no such guest", Check.look(x, 1, 0), Check.INDEX);
        Check.due("guest -1", Check.look(x, -1, 99), Check.INDEX);
        Check.due("no such what", Check.look(x, 0, -1), Check.ELEMENT);
        Check.due("what 11", Check.look(x, 0, 11), Check.ELEMENT);
        Check.due("station 1", x.station(1, 0), -1);
        Check.due("station -1", x.station(-1, 0), -1);
        Check.due("station what 10", x.station(0, 10), -1);
        Check.due("station what -1", x.station(0, -1), -1);
        Check.due("row(1)", x.row(1), -1);
        Check.due("row(-1)", x.row(-1), -1);
        Check.due("seconds(-1)", x.seconds(-1), -1);
        Check.due("seconds(901)", x.seconds(901), -1);
        Check.due("seconds(MAX)", x.seconds(Integer.MAX_VALUE), -1);
        Check.due("nothing went by", x.all(4), 0);
        for (int i = 1; i <= 4; i++) {
            Check.due("seconds(900)", x.seconds(900), 900 * i);
        }
        Check.due("beyond 3600", x.seconds(1), -1);
        Check.due("none at 3600", x.seconds(0), 3600);
    }

    private static void pans() {
        EggTrays x = Check.told("station e 1 1 pan 2 3 0;guest p 0 9 wants e 2;guest q 0 9 wants e 1;guest r 5 9 wants e 2;pass;");
        station(x, "at first", 0, 1, 1, 2, 0, -1, 0, 0, 0, 0, 0);
        x.seconds(1);
        station(x, "second 1", 0, 1, 1, 0, 1, 3, 2, 0, 1, 0, 0);
        look(x, "missed", 1, 1, 0, 9, 0, 0, 0, 0, 0, 0, 1, 1);
        x.seconds(3);
        station(x, "second 4", 0, 1, 1, 2, 1, -1, 2, 0, 3, 1, 0);
        x.seconds(2);
        station(x, "second 6", 0, 1, 1, 0, 3, 8, 4, 0, 4, 1, 0);
    }

    private static void fromAndClose() {
        EggTrays x = Check.told("station e 1 1 pan 2 4 2;close 1;guest p 9 9 wants e 9;");
        x.seconds(1);
        Check.due("ordered while full", x.station(0, 4), 4);
        x.seconds(4);
        Check.due("filled", x.station(0, 2), 4);
        Check.due("age", x.station(0, 3), 1);
        x.seconds(6);
        Check.due("4 taken of 9", x.station(0, 5), 4);
        Check.due("closed: none is ordered", x.station(0, 4), -1);
        Check.due("want left", Check.look(x, 0, 3), 5);
        Check.due("done without again", Check.look(x, 0, 0), 3);
        EggTrays y = Check.told("station e 1 1 pan 2 4 2;close 0;");
        y.seconds(9);
        Check.due("close 0", y.station(0, 4), -1);
        EggTrays z = Check.told("station e 1 1 pan 2 1 1;guest p 0 9 wants e 1;");
        z.seconds(1);
        Check.due("due the next second", z.station(0, 4), 1);
        z.seconds(1);
        Check.due("3 in it", z.station(0, 2), 3);
        Check.due("never empty", z.station(0, 7), 0);
    }

    private static void cold() {
        String told = "station e 1 1 pan 9 9 0 cold 3;guest p 2 9 wants e 2;guest q 3 9 wants e 4;pass;";
        EggTrays x = Check.told(told);
        x.seconds(3);
        Check.due("age 2 is warm", x.station(0, 6), 0);
        x.seconds(1);
        Check.due("age 3 is cold", x.station(0, 6), 4);
        Check.due("all taken", x.station(0, 5), 6);
        EggTrays y = Check.told("station e 1 1 cold 1;guest p 9 9 wants e 2;");
        y.seconds(20);
        Check.due("never cold without a pan", y.station(0, 6), 0);
        Check.due("no age without a pan", y.station(0, 3), 0);
        Check.due("never empty without a pan", y.station(0, 7), 0);
        EggTrays z = Check.told(told);
        z.seconds(2);
        z.put(0);
        z.seconds(2);
        Check.due("warm behind a new pan", z.station(0, 6), 0);
    }

    private static void blocked() {
        String told = "station a 1 1;station b 5 1;station c 1 1;guest p 0 5 wants b 1;guest q 0 5 wants a 1 wants c 1;guest r 0 5;";
        EggTrays x = Check.told(told);
        x.seconds(1);
        look(x, "second 1", 0, 1, 1, 4, 0, 4);
        look(x, "goes behind", 1, 1, 0, 4, 1, 0, 0);
        look(x, "the end is blocked", 2, 1, 0, 5, 0, 0, 1);
        x.seconds(1);
        look(x, "up to the one ahead", 1, 1, 1, 4, 1, 0, 1);
        look(x, "up to the one ahead", 2, 1, 1, 5, 0, 0, 2);
        x.seconds(3);
        look(x, "second 5", 1, 1, 1, 4, 1, 0, 4);
        x.seconds(1);
        Check.due("p has left", Check.look(x, 0, 0), 3);
        look(x, "second 6", 1, 1, 2, 3, 0, 0, 4);
        look(x, "second 6", 2, 1, 2, 5, 0, 0, 6);
        x.seconds(1);
        look(x, "second 7", 1, 3, -1, 5, 0, 0, 4, 2, 2);
        look(x, "leaves in the same second", 2, 3, -1, 5, 0, 0, 6, 0, 0, 0, 0, 1);
        EggTrays y = Check.told(told + "pass;");
        y.seconds(3);
        Check.due("nobody waits with pass", y.all(12), 0);
        Check.due("line of one", y.line(0), 0);
        Check.due("line(1)", y.line(1), -1);
    }

    private static void again() {
        EggTrays x = Check.told("station b 1 1;guest p 0 2 wants b 5;again 4;law eats taken-1;");
        x.seconds(2);
        look(x, "sits", 0, 2, -1, 2, 3, 0, 0, 2, 1, 1, 0, 1);
        x.seconds(3);
        look(x, "sits yet", 0, 2, -1, 2, 3, 0, 0, 2, 1, 1, 0, 1);
        x.seconds(1);
        look(x, "takes again", 0, 1, 0, 0, 1, 0, 0, 4, 1, 1, 0, 2);
        x.seconds(6);
        look(x, "done", 0, 3, -1, 2, 0, 0, 0, 5, 2, 3, 0, 3);
        EggTrays y = Check.told("station b 1 1 pan 1 900 0;station c 1 1;guest p 0 1 wants b 2 wants c 1;again 2;");
        y.seconds(2);
        Check.due("comes again for two", Check.look(y, 0, 0), 2);
        y.seconds(2);
        look(y, "misses b", 0, 1, 0, 1, 1, 0, 0, 1, 1, 0, 1, 2);
        y.seconds(9);
        look(y, "done", 0, 3, -1, 1, 0, 0, 0, 2, 2, 0, 1, 2);
        EggTrays z = Check.told("station b 2 1;guest p 0 9 wants b 3;again 2;law heap 0-7;");
        z.seconds(1);
        look(z, "takes nothing for two seconds", 0, 1, 0, 9, 3, 1, 0, 0);
        z.seconds(9);
        look(z, "nothing taken: not again", 0, 3, -1, 9, 3, 0, 0, 0, 0, 0, 0, 1);
    }

    private static void leavesOut() {
        EggTrays x = Check.told("station b 5 1;station c 1 1;guest p 0 3 wants b 1;guest q 0 3 wants b 1 wants c 1;pass;law leave line>1;");
        x.seconds(1);
        look(x, "left out", 1, 1, 0, 3, 1, 0, 0, 0, 0, 0, 1, 1);
        x.seconds(1);
        look(x, "the next one", 1, 1, 1, 2, 0, 0, 0, 1);
        x.seconds(1);
        look(x, "done", 1, 3, -1, 3, 0, 0, 0, 1, 1, 0, 1, 1);
        EggTrays y = Check.told("station b 5 1;guest p 0 3 wants b 1;guest q 0 3 wants b 1;law leave 1/0;");
        y.seconds(5);
        Check.due("an error: they wait", Check.look(y, 1, 5), 5);
        EggTrays z = Check.told("station b 9 1;guest p 0 3 wants b 1;guest q 1 3 wants b 1;law leave late>=3;");
        z.seconds(4);
        look(z, "waits for three", 1, 1, 0, 3, 1, 0, 3, 0, 0, 0, 0);
        z.seconds(1);
        look(z, "gives up", 1, 1, 0, 3, 0, 0, 3, 0, 0, 0, 1);
    }

    private static void leavesOutAtOnce() {
        for (int n = 1; n <= 9; n += 8) {
            EggTrays x = Check.told("station b 30 1;guest p 0 3 wants b 1;guest q 1 3 wants b 1;law leave late>=3;");
            for (int i = 0; i < 9; i += n) {
                x.seconds(n);
            }
            look(x, "by " + n, 1, 1, 0, 3, 0, 0, 7, 0, 0, 0, 1);
        }
    }

    private static int[] heaps(String law, String guests) {
        EggTrays x = Check.told("station x 1 1;station y 1 1 pan 60 900 0;" + guests + "law heap " + law + ";");
        x.seconds(30);
        return new int[] {x.station(0, 5), x.station(1, 5)};
    }

    private static void heap(String law, int first, int second) {
        int[] taken = heaps(law, "guest p 3 20 wants x 2 wants y 3;");
        Check.due("heap " + law + " at x", taken[0], first);
        Check.due("heap " + law + " at y", taken[1], second);
    }

    private static void names() {
        heap("want", 2, 3);
        heap("want/2", 1, 1);
        heap("want*2", 4, 6);
        heap("room/4", 5, 3);
        heap("here/200", 4, 0);
        heap("here/30", 20, 0);
        heap("here=60", 0, 1);
        heap("here=999", 1, 0);
        heap("age+1", 1, 5);
        heap("line+1", 2, 2);
        heap("late+1", 1, 2);
        heap("size/5", 4, 4);
        heap("taken+2", 2, 4);
        heap("1/0", 2, 3);
        heap("0-1", 0, 0);
        heap("9999", 20, 0);
        heap("9999*9999*9999*9999", 2, 3);
        int[] two = heaps("line", "guest p 0 9 wants x 1;guest q 0 9 wants x 1;pass;");
        Check.due("line of two, then of one", two[0], 3);
    }

    private static void eats(String law, int eaten) {
        EggTrays x = Check.told("station x 2 1 pan 9 900 0;station y 1 1;guest p 1 6 wants x 4;guest q 1 9 wants y 9;pass;law eats " + law + ";");
        x.seconds(9);
        Check.due("eats " + law, Check.look(x, 0, 7), eaten);
        Check.due("left of " + law, Check.look(x, 0, 8), 4 - eaten);
    }

    private static void eating() {
        eats("taken", 4);
        eats("taken/2", 2);
        eats("room", 2);
        eats("size-room-1", 3);
        eats("want+1", 1);
        eats("here+age+1", 1);
        eats("line", 1);
        eats("late", 2);
        eats("99", 4);
        eats("0-1", 0);
        eats("1/0", 4);
        EggTrays x = Check.told("station x 1 1;station y 1 1;guest p 0 3 wants x 2 wants y 9;law eats want;");
        x.seconds(5);
        Check.due("all wants together", Check.look(x, 0, 7), 3);
        EggTrays y = Check.told("station x 1 1;guest p 0 9 wants x 5;guest q 0 9;guest r 0 9;law eats line;");
        y.seconds(2);
        Check.due("the line with them", Check.look(y, 0, 7), 3);
    }

    private static void order() {
        EggTrays x = Check.told("station a 4 2;guest z 2 5 wants a 1;guest y 0 5 wants a 1;guest w 2 5 wants a 1;guest v 2 5;");
        x.seconds(3);
        Check.due("the first to come", x.line(0), 1);
        Check.due("by numbers", x.line(1), 0);
        Check.due("by numbers", x.line(2), 2);
        Check.due("by numbers", x.line(3), 3);
        Check.due("two places: takes", Check.look(x, 0, 4), 3);
        Check.due("no third place: waits", Check.look(x, 2, 5), 1);
        Check.due("blocked behind", Check.look(x, 3, 5), 1);
        x.seconds(2);
        Check.due("a place is free", Check.look(x, 2, 4), 3);
    }

    public static void main(String[] args) {
        oneTakesOneWaits();
        wrongInputs();
        pans();
        fromAndClose();
        cold();
        blocked();
        again();
        leavesOut();
        leavesOutAtOnce();
        names();
        eating();
        order();
        Check.end();
    }
}
