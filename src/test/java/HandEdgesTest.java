import java.util.List;

/** The boundary cases of ==== 4 and of promises 11 to 14, 31 and 32, sentence by sentence. */
public final class HandEdgesTest {
    private static final int[] FAR = {-1, 5, 9, Integer.MIN_VALUE, Integer.MAX_VALUE};
    private static final String FIVE = "station a 1 1;station b 1 1;station c 1 1;station d 1 1;station e 1 1 pan 60 900 0;";

    /** The text of BUSY with nobody in the LINE: p, q and r are DONE, s is to come; three can be undone, with an image behind. */
    private static final Twins.Deed QUIET = x -> {
        Check.tell(x, Twins.BUSY_TEXT);
        x.seconds(3);
        x.keep();
        x.seconds(37);
        x.count(0, 3, 2, 9);
        x.change(0, 2);
        x.put(2);
        x.change(1, 2);
        return x.all(8);
    };

    private static void station(EggTrays x, String when, int station, int what, int due) {
        Check.due(when + ": station(" + station + ", " + what + ")", x.station(station, what), due);
    }

    private static void look(EggTrays x, String when, int guest, int what, int due) {
        Check.due(when + ": look(" + guest + ", " + what + ")", Check.look(x, guest, what), due);
    }

    private static EggTrays busy() {
        EggTrays x = new EggTrays();
        Twins.BUSY.on(x);
        return x;
    }

    private static EggTrays quiet() {
        EggTrays x = new EggTrays();
        Check.due("nobody is in the line", QUIET.on(x), 0);
        return x;
    }

    private static void row(EggTrays x, String when, int... due) {
        for (int i = 0; i < due.length; i++) {
            Check.due(when + ": row(" + i + ")", x.row(i), due[i]);
            station(x, when, due[i], 9, i);
        }
    }

    /** Two objects answer the same, now and in the seconds to come. */
    private static void same(String what, EggTrays one, EggTrays other) {
        Check.due(what, Twins.seen(one).equals(Twins.seen(other)), true);
        one.seconds(10);
        other.seconds(10);
        Check.due(what + ", ten seconds on", Twins.seen(one).equals(Twins.seen(other)), true);
        one.seconds(800);
        other.seconds(800);
        Check.due(what + ", 810 seconds on", Twins.seen(one).equals(Twins.seen(other)), true);
    }

    /** Promise 11 "NONE: no such STATION, no pan". */
    private static void putRefused() {
        for (int station : new int[] {-1, 1, 3, 5, Integer.MIN_VALUE, Integer.MAX_VALUE}) {
            Twins.leavesAll("put(" + station + ")", Twins.BUSY, x -> x.put(station), -1);
        }
        Check.due("no stations", new EggTrays().put(0), -1);
        EggTrays x = Check.told(FIVE);
        for (int station = -1; station <= 6; station++) {
            Check.due("put(" + station + ")", x.put(station), station == 4 ? 120 : -1);
        }
        Check.due("one to undo", x.all(7), 1);
        Check.due("station 0 with a pan, alone", Check.told("station a 1 1 pan 1 1 0;").put(0), 2);
        EggTrays told = Check.told("station a 1 1 pan 1 1 0;");
        Check.tell(told, "station a 1 1;");
        Check.due("the pan was of the text ahead", told.put(0), -1);
    }

    /** "a PAN put down (so many PORTIONS more at once, AGE 0; what is on its way stays so)", "it counts as filled". */
    private static void putDown() {
        EggTrays x = Check.told("station a 1 1 pan 4 9 1;station b 1 1;station c 1 1 pan 2 9 0;guest p 2 9 wants a 3 wants c 1;");
        x.seconds(5);
        station(x, "one of four is left", 0, 2, 1);
        station(x, "ordered in second 2", 0, 4, 11);
        station(x, "one of two is left", 2, 2, 1);
        Check.due("a pan of 4", x.put(0), 5);
        Check.due("a pan of 2", x.put(2), 3);
        Check.due("another pan of 2", x.put(2), 5);
        station(x, "put down", 0, 2, 5);
        station(x, "age 0", 0, 3, 0);
        station(x, "on its way", 0, 4, 11);
        station(x, "filled once", 0, 8, 1);
        station(x, "not on its way", 2, 4, -1);
        station(x, "filled twice", 2, 8, 2);
        station(x, "another one", 1, 8, 0);
        x.seconds(1);
        station(x, "age 1 behind a second", 0, 3, 1);
        x.seconds(5);
        station(x, "not yet come", 0, 8, 1);
        station(x, "on its way, though five are more than from", 0, 4, 11);
        x.seconds(1);
        station(x, "what was on its way came", 0, 8, 2);
        station(x, "what was on its way came", 0, 2, 9);
        station(x, "what was on its way came", 0, 3, 1);
        for (int portions : new int[] {1, 60}) {
            EggTrays y = Check.told("station a 1 1 pan " + portions + " 9 0;");
            Check.due("pan " + portions, y.put(0), 2 * portions);
            Check.due("pan " + portions, y.put(0), 3 * portions);
            Check.due("in all pans", y.all(11), 3 * portions);
        }
    }

    /** An empty pan that is put down isn't EMPTY; one at FROM yet is ordered, one above isn't. */
    private static void putDownEdges() {
        String text = "station e 1 1 pan 2 900 FROM;guest p 0 9 wants e 2;guest q 5 9 wants e 1;";
        int[] due = {-1, -1, 900, 900};
        for (int from = 0; from < 4; from++) {
            EggTrays x = Check.told(text.replace("FROM", "" + from));
            x.put(0);
            x.seconds(1);
            station(x, "two of four are left, from " + from, 0, 4, due[from]);
        }
        EggTrays x = Check.told(text.replace("FROM", "0"));
        x.seconds(5);
        station(x, "empty 0 .. 4", 0, 7, 5);
        station(x, "age goes on", 0, 3, 5);
        Check.due("put down", x.put(0), 2);
        x.seconds(1);
        station(x, "not empty in second 5", 0, 7, 5);
        look(x, "takes, and doesn't miss", 1, 6, 1);
        EggTrays none = Check.told(text.replace("FROM", "0"));
        none.seconds(6);
        look(none, "misses", 1, 9, 1);
        String cold = "station e 1 1 pan 9 900 0 cold 5;guest p 5 9 wants e 1;";
        EggTrays warm = Check.told(cold);
        warm.seconds(5);
        warm.put(0);
        warm.seconds(1);
        station(warm, "age 0: not cold", 0, 6, 0);
        EggTrays old = Check.told(cold);
        old.seconds(4);
        old.put(0);
        old.seconds(2);
        station(old, "age 1: not cold", 0, 6, 0);
        EggTrays first = Check.told(cold);
        first.put(0);
        first.seconds(6);
        station(first, "put down at 0, age 5: cold", 0, 6, 1);
        EggTrays last = Check.told(cold);
        for (int i = 0; i < 4; i++) {
            last.seconds(900);
        }
        Check.due("behind the last second", last.put(0), 17);
        station(last, "age", 0, 3, 0);
    }

    /** Promise 12 "false: no such ones, both the same, somebody is in the LINE". */
    private static void changeRefused() {
        for (int a : FAR) {
            for (int b : new int[] {0, 2, a}) {
                Twins.leavesAll("change(" + a + ", " + b + ")", QUIET, x -> x.change(a, b) ? 1 : 0, 0);
                Twins.leavesAll("change(" + b + ", " + a + ")", QUIET, x -> x.change(b, a) ? 1 : 0, 0);
            }
        }
        for (int a = 0; a <= 3; a++) {
            int place = a;
            Twins.leavesAll("change(" + a + ", " + a + ")", QUIET, x -> x.change(place, place) ? 1 : 0, 0);
            Twins.leavesAll("change(" + a + ", 3)", QUIET, x -> x.change(place, 3) ? 1 : 0, 0);
        }
        Twins.leavesAll("somebody is in the line", Twins.BUSY, x -> x.change(0, 1) ? 1 : 0, 0);
        Twins.leavesAll("somebody is in the line", Twins.BUSY, x -> x.change(2, 0) ? 1 : 0, 0);
        Check.due("no stations", new EggTrays().change(0, 1), false);
        Check.due("no stations", new EggTrays().change(0, 0), false);
        for (int n = 1; n <= 5; n++) {
            StringBuilder text = new StringBuilder();
            for (int i = 0; i < n; i++) {
                text.append("station ").append((char) ('a' + i)).append(" 1 1;");
            }
            for (int a = -1; a <= 6; a++) {
                for (int b = -1; b <= 6; b++) {
                    EggTrays x = Check.told(text.toString());
                    boolean can = a >= 0 && b >= 0 && a < n && b < n && a != b;
                    Check.due(n + " stations, change(" + a + ", " + b + ")", x.change(a, b), can);
                    Check.due("to undo", x.all(7), can ? 1 : 0);
                    for (int place = 0; place < n; place++) {
                        Check.due("row", x.row(place), can && place == a ? b : can && place == b ? a : place);
                    }
                }
            }
        }
    }

    /** "(as long as nobody is in the LINE)": who is to come, sits, is DONE or was sent away is not in it. */
    private static void changeWithoutLine() {
        String text = "station a 1 1;station b 1 1;guest p 2 1 wants a 2;again 5;";
        boolean[] can = {true, true, true, false, true, true, true, true, true, false, true};
        for (int second = 0; second < can.length; second++) {
            EggTrays x = Check.told(text);
            x.seconds(second);
            Check.due("in the line at " + second, x.all(8), can[second] ? 0 : 1);
            Check.due("change at " + second, x.change(0, 1), can[second]);
            row(x, "at " + second, can[second] ? 1 : 0, can[second] ? 0 : 1);
        }
        EggTrays x = Check.told("station a 9 1;station b 9 1;guest p 0 1 wants a 1;guest q 0 1 wants a 1;");
        x.seconds(1);
        Check.due("two", x.change(0, 1), false);
        x.send(0);
        Check.due("one", x.change(0, 1), false);
        x.send(1);
        Check.due("nobody", x.change(0, 1), true);
        x.undo();
        x.undo();
        Check.due("one again", x.change(0, 1), false);
        EggTrays quiet = quiet();
        row(quiet, "c, b, a and then c, a, b", 2, 0, 1);
        Check.due("the last two", quiet.change(2, 1), true);
        row(quiet, "changed", 2, 1, 0);
        Check.due("all", quiet.change(0, 2), true);
        row(quiet, "changed", 0, 1, 2);
        EggTrays last = Check.told(text);
        for (int i = 0; i < 4; i++) {
            last.seconds(900);
        }
        Check.due("behind the last second", last.change(0, 1), true);
    }

    /** Promise 13 "false: no such one, DONE already". */
    private static void sendRefused() {
        for (int guest : new int[] {-1, 4, 9, Integer.MIN_VALUE, Integer.MAX_VALUE}) {
            Twins.leavesAll("send(" + guest + ")", Twins.BUSY, x -> x.send(guest) ? 1 : 0, 0);
        }
        Twins.leavesAll("sent already", Twins.BUSY, x -> x.send(3) ? 1 : 0, 0);
        for (int guest = 0; guest < 3; guest++) {
            int done = guest;
            Twins.leavesAll("done already", QUIET, x -> x.send(done) ? 1 : 0, 0);
        }
        Check.due("no guests", new EggTrays().send(0), false);
        StringBuilder nine = new StringBuilder();
        for (int i = 0; i < 9; i++) {
            nine.append("guest ").append((char) ('a' + i)).append(" 0 1;");
        }
        EggTrays x = Check.told(nine.toString());
        for (int guest = -1; guest <= 9; guest++) {
            Check.due("send(" + guest + ") of nine", x.send(guest), guest >= 0 && guest < 9);
        }
        for (int guest = -1; guest <= 9; guest++) {
            Check.due("send(" + guest + ") once more", x.send(guest), false);
        }
        Check.due("nine to undo", x.all(7), 9);
        x.seconds(5);
        Check.due("none came", x.all(8), 0);
    }

    /** "a GUEST sent away (not to come, or out of the LINE, what is on the plate LEFT)", of each kind. */
    private static void sendAway() {
        // BUSY at 11: p sits with one portion left and eaten two, q waits for the end at c with two on the plate, r takes b with one.
        int[][] due = {{3, -1, 3, 1, 0, 0, 3, 2, 1, 0, 1}, {3, -1, 5, 0, 0, 5, 2, 0, 2, 0, 1}, {3, -1, 5, 1, 0, 0, 1, 0, 1, 0, 1}};
        for (int guest = 0; guest < 3; guest++) {
            EggTrays x = busy();
            int inLine = x.all(8);
            Check.due("send(" + guest + ")", x.send(guest), true);
            for (int what = 0; what <= 10; what++) {
                look(x, "sent away", guest, what, due[guest][what]);
            }
            Check.due("in the line", x.all(8), guest == 0 ? inLine : inLine - 1);
            Check.due("first", x.line(0), guest == 1 ? 2 : 1);
            Check.due("last", x.line(1), guest == 0 ? 2 : -1);
            Check.due("once more", x.send(guest), false);
            x.seconds(300);
            look(x, "doesn't come again", guest, 10, 1);
        }
        EggTrays x = Check.told("station a 1 1;guest p 0 9 wants a 2;law eats 9;");
        x.send(0);
        look(x, "nothing on the plate", 0, 8, 0);
        x.seconds(9);
        look(x, "didn't come", 0, 10, 0);
        EggTrays last = Check.told("guest p 3599 1;guest q 3599 1;");
        last.seconds(900);
        last.seconds(900);
        last.seconds(900);
        last.seconds(899);
        Check.due("to come yet", last.send(0), true);
        last.seconds(1);
        look(last, "not come", 0, 10, 0);
        look(last, "come", 1, 10, 1);
    }

    /** Who is behind goes on in the next second, as if the one sent away had never been ahead. */
    private static void sendOutOfTheLine() {
        String text = "station a 9 1;station b 1 1;guest p 0 9 wants a 1;guest q 0 9 wants b 1;guest r 0 9 wants a 1 wants b 1;";
        EggTrays x = Check.told(text);
        x.seconds(2);
        look(x, "blocked", 1, 5, 2);
        look(x, "waits", 2, 5, 2);
        x.send(0);
        x.seconds(1);
        look(x, "nobody is ahead: takes", 1, 6, 1);
        look(x, "the place is free: takes", 2, 4, 8);
        look(x, "has not waited more", 2, 5, 2);
        EggTrays y = Check.told(text);
        y.seconds(2);
        y.send(1);
        y.seconds(1);
        look(y, "p takes yet", 0, 4, 6);
        look(y, "r waits yet", 2, 5, 3);
        Check.due("line", y.line(1), 2);
    }

    /** Promise 14 "NONE: none". */
    private static void undoRefused() {
        Twins.leavesAll("undo() of a new object", Twins.NOTHING, x -> x.undo(), -1);
        Twins.Deed none = x -> {
            Twins.BUSY.on(x);
            x.undo();
            x.undo();
            return x.undo();
        };
        Check.due("the last one", none.on(new EggTrays()), 0);
        Twins.leavesAll("undo() once too often", none, x -> x.undo(), -1);
        Twins.Deed second = x -> {
            Twins.BUSY.on(x);
            return x.seconds(1);
        };
        Twins.leavesAll("a second went by", second, x -> x.undo(), -1);
        Twins.Deed back = x -> {
            Twins.BUSY.on(x);
            return x.back();
        };
        Twins.leavesAll("back", back, x -> x.undo(), -1);
        Twins.Deed text = x -> {
            Twins.BUSY.on(x);
            return x.text(5);
        };
        Check.due("one line", text.on(new EggTrays()), 1);
        Twins.leavesAll("another text", text, x -> x.undo(), -1);
    }

    /** "Each that was done can be undone": one and its undoing leave all as it was. */
    private static void undone() {
        for (int station : new int[] {0, 2}) {
            Twins.leavesAll("put(" + station + ") and undo", Twins.BUSY, x -> x.put(station) > 0 ? x.undo() : -9, 3);
        }
        for (int guest : new int[] {0, 1, 2}) {
            Twins.leavesAll("send(" + guest + ") and undo", Twins.BUSY, x -> x.send(guest) ? x.undo() : -9, 3);
        }
        Twins.leavesAll("send(3) and undo", QUIET, x -> x.send(3) ? x.undo() : -9, 3);
        for (int a = 0; a < 3; a++) {
            for (int b = 0; b < 3; b++) {
                int one = a;
                int other = b;
                if (a != b) {
                    Twins.leavesAll("change(" + a + ", " + b + ") and undo", QUIET, x -> x.change(one, other) ? x.undo() : -9, 3);
                }
            }
        }
        Twins.leavesAll("all three and undo", QUIET, x -> x.change(0, 1) && x.send(3) && x.put(0) > 0 ? 100 * x.undo() + 10 * x.undo() + x.undo() : -9, 543);
        // The latest is undone, and what is done then can be undone again.
        Twins.leavesAll("undo, put, undo, put", QUIET, x -> {
            x.change(0, 1);
            x.undo();
            x.put(0);
            x.send(3);
            x.undo();
            x.put(2);
            x.undo();
            return x.undo();
        }, 3);
        // What is refused is not done by hand.
        Twins.leavesAll("refused ones can't be undone", Twins.BUSY, x -> {
            x.put(0);
            x.put(1);
            x.put(-1);
            x.change(0, 1);
            x.send(3);
            x.send(4);
            x.seconds(901);
            x.seconds(0);
            x.seconds(-1);
            x.text(-1);
            x.waited(90);
            return x.undo();
        }, 3);
    }

    /** "20 at most". */
    private static void twenty() {
        for (int done : new int[] {1, 2, 19, 20, 21, 22, 40}) {
            EggTrays x = Check.told("station a 1 1 pan 3 900 0;station b 1 1;station c 1 1;guest p 9 1;");
            for (int i = 1; i <= done; i++) {
                if (i % 2 == 0) {
                    x.put(0);
                } else {
                    x.change(i / 2 % 3, (i / 2 + 1) % 3);
                }
                Check.due(i + " done", x.all(7), Math.min(i, 20));
            }
            EggTrays y = Check.told("station a 1 1 pan 3 900 0;station b 1 1;station c 1 1;guest p 9 1;");
            for (int i = 1; i <= done - 20; i++) {
                if (i % 2 == 0) {
                    y.put(0);
                } else {
                    y.change(i / 2 % 3, (i / 2 + 1) % 3);
                }
            }
            int can = Math.min(done, 20);
            for (int i = can - 1; i >= 0; i--) {
                Check.due(done + " done, undo", x.undo(), i);
                Check.due("left", x.all(7), i);
            }
            Check.due("no more", x.undo(), -1);
            for (int place = 0; place < 3; place++) {
                Check.due(done + " done, 20 undone: row", x.row(place), y.row(place));
            }
            Check.due(done + " done, 20 undone: portions", x.all(11), y.all(11));
            Check.due(done + " done, 20 undone: filled", x.station(0, 8), y.station(0, 8));
        }
    }

    /** "if no SECOND went by since". */
    private static void sinceSeconds() {
        EggTrays x = Check.told("station a 1 1 pan 3 900 0;");
        x.put(0);
        Check.due("no second", x.seconds(0), 0);
        Check.due("to undo yet", x.all(7), 1);
        Check.due("refused", x.seconds(901), -1);
        Check.due("refused", x.seconds(-1), -1);
        Check.due("to undo yet", x.all(7), 1);
        Check.due("undone", x.undo(), 0);
        x.put(0);
        x.seconds(1);
        Check.due("nothing to undo", x.all(7), 0);
        Check.due("nothing to undo", x.undo(), -1);
        x.put(0);
        Check.due("what was done since", x.all(7), 1);
        Check.due("what was done since", x.undo(), 0);
        Check.due("the one ahead stays", x.station(0, 2), 6);
        Check.due("the one ahead stays", x.undo(), -1);
        for (int i = 0; i < 3; i++) {
            x.seconds(900);
        }
        x.seconds(899);
        x.put(0);
        Check.due("beyond 3600", x.seconds(1), -1);
        Check.due("none went by", x.all(7), 1);
        Check.due("3600 is next", x.all(4), 3600);
        Check.due("undone", x.undo(), 0);
    }

    /** Promise 31: "An IMAGE is kept (in place of one ahead): which SECOND is next"; nothing else is changed by it. */
    private static void keep() {
        EggTrays fresh = new EggTrays();
        Check.due("of a new object", fresh.keep(), 0);
        Check.due("of a new object", fresh.back(), 0);
        EggTrays last = Check.told("guest p 0 1;");
        for (int i = 1; i <= 4; i++) {
            last.seconds(900);
            Check.due("keep", last.keep(), 900 * i);
        }
        Check.due("behind the last second", last.back(), 3600);
        same("keep leaves all", kept(busy(), 11), busy());
        same("keep leaves all", kept(quiet(), 40), quiet());
        EggTrays x = kept(busy(), 11);
        Check.due("can be undone yet", x.all(7), 3);
        Check.due("can be undone yet", x.undo(), 2);
        Check.due("the image is not undone", x.back(), 11);
        Check.due("portions of the image", x.station(2, 2), 3);
        EggTrays y = busy();
        Check.due("the first one", y.back(), 7);
        y.seconds(1);
        Check.due("in place of it", y.keep(), 8);
        y.seconds(100);
        Check.due("in place of it", y.back(), 8);
    }

    private static EggTrays kept(EggTrays x, int second) {
        Check.due("keep", x.keep(), second);
        return x;
    }

    /** Promise 32: "All is as in the IMAGE (nothing to undo then)". */
    private static void back() {
        EggTrays twin = new EggTrays();
        Check.tell(twin, Twins.BUSY_TEXT);
        twin.change(0, 1);
        twin.seconds(7);
        for (int times = 1; times <= 3; times++) {
            EggTrays x = busy();
            for (int i = 0; i < times; i++) {
                x.put(0);
                x.seconds(i * 100);
                x.send(1);
                x.put(0);
                Check.due("back", x.back(), 7);
                Check.due("nothing to undo", x.all(7), 0);
            }
            List<Long> seen = Twins.seen(x);
            List<Long> due = Twins.seen(twin);
            // COUNTS and by how many it is known are not in it.
            int counts = 2 + 5;
            Check.due("three counts", seen.get(counts), 3);
            Check.due("known by two", seen.get(counts + 1), 2);
            seen.set(counts, 0L);
            seen.set(counts + 1, 0L);
            int end = seen.size() - 1;
            Check.due("all is as in the image", seen.subList(0, end).equals(due.subList(0, end)), true);
        }
        EggTrays x = busy();
        x.back();
        for (int i = 0; i < 60; i++) {
            x.seconds(1);
            twin.seconds(1);
            for (int guest = 0; guest < 4; guest++) {
                for (int what = 0; what <= 10; what++) {
                    look(x, "second " + i + " behind the image", guest, what, Check.look(twin, guest, what));
                }
            }
            for (int what = 8; what <= 12; what++) {
                Check.due("second " + i + " behind the image, all(" + what + ")", x.all(what), twin.all(what));
            }
        }
    }

    /** "NONE: there is none"; it is gone with a text, and stays with a fault. */
    private static void noImage() {
        Twins.leavesAll("back() of a new object", Twins.NOTHING, x -> x.back(), -1);
        Twins.Deed none = x -> {
            Check.tell(x, Twins.BUSY_TEXT);
            x.seconds(5);
            return x.put(0);
        };
        Twins.leavesAll("back() without keep()", none, x -> x.back(), -1);
        Twins.Deed gone = x -> {
            Twins.BUSY.on(x);
            x.text(-1);
            x.text(2000);
            x.text(1);
            Check.tell(x, Twins.BUSY_TEXT);
            x.seconds(5);
            return x.put(2);
        };
        Twins.leavesAll("back() behind a text", gone, x -> x.back(), -1);
        EggTrays x = busy();
        Check.due("a fault", Check.tell(x, "station"), -1);
        Check.due("the image stays", x.back(), 7);
        Check.due("not so many", x.text(-1), -2);
        Check.due("the image stays", x.back(), 7);
        EggTrays y = busy();
        y.text(0);
        Check.due("gone with a text of no lines", y.back(), -1);
    }

    /** "An IMAGE keeps all but COUNTS": those told since stay, those ahead stay too. */
    private static void countsStay() {
        EggTrays x = Check.told("station e 1 1 pan 3 900 0;guest p 3 9 wants e 1;");
        x.count(0, 0, 3, 3);
        x.keep();
        x.count(0, 0, 4, 4);
        Check.due("doesn't fit", x.fits(), 0);
        x.back();
        Check.due("two counts", x.all(5), 2);
        Check.due("doesn't fit", x.fits(), 0);
        Check.due("the next one", x.strike(1), 2);
        Check.due("fits", x.fits(), 1);
        x.back();
        Check.due("three counts", x.all(5), 3);
        Check.due("fits", x.fits(), 1);
    }

    public static void main(String[] args) {
        putRefused();
        putDown();
        putDownEdges();
        changeRefused();
        changeWithoutLine();
        sendRefused();
        sendAway();
        sendOutOfTheLine();
        undoRefused();
        undone();
        twenty();
        sinceSeconds();
        keep();
        back();
        noImage();
        countsStay();
        Check.end();
    }
}
