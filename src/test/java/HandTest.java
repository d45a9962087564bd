/** Promises 11 to 14, 31 and 32: what is done by hand, undone, and kept as an image. */
public final class HandTest {
    private static final String TOLD = "station a 3 1 pan 4 9 1 cold 50;station b 3 1;station c 2 1 pan 2 9 0;"
            + "guest p 0 5 wants a 2 wants b 1;guest q 1 5 wants a 1;guest r 200 5 wants c 1;again 30;law eats 0;";

    private static void putDown() {
        EggTrays x = Check.told(TOLD);
        x.seconds(5);
        Check.due("age", x.station(0, 3), 5);
        Check.due("put on 1", x.put(0), 5);
        Check.due("age 0", x.station(0, 3), 0);
        Check.due("filled", x.station(0, 8), 1);
        Check.due("what is on its way stays so", x.station(0, 4), 12);
        Check.due("put again", x.put(0), 9);
        Check.due("no pan", x.put(1), -1);
        Check.due("no station", x.put(3), -1);
        Check.due("station -1", x.put(-1), -1);
        Check.due("two to undo", x.all(7), 2);
        Check.due("undo", x.undo(), 1);
        Check.due("undo", x.undo(), 0);
        Check.due("undo", x.undo(), -1);
        Check.due("portions again", x.station(0, 2), 1);
        Check.due("age again", x.station(0, 3), 5);
        Check.due("filled again", x.station(0, 8), 0);
        x.put(0);
        x.seconds(8);
        Check.due("the pan on its way came", x.station(0, 2), 9);
        Check.due("filled twice", x.station(0, 8), 2);
    }

    private static void changeOver() {
        EggTrays x = Check.told(TOLD);
        Check.due("same place", x.change(1, 1), false);
        Check.due("place 3", x.change(0, 3), false);
        Check.due("place -1", x.change(-1, 0), false);
        Check.due("change", x.change(0, 2), true);
        Check.due("row(0)", x.row(0), 2);
        Check.due("row(1)", x.row(1), 1);
        Check.due("row(2)", x.row(2), 0);
        Check.due("place of station 0", x.station(0, 9), 2);
        Check.due("change", x.change(0, 1), true);
        Check.due("row(0)", x.row(0), 1);
        Check.due("row(1)", x.row(1), 2);
        x.seconds(1);
        Check.due("goes to b first", x.station(1, 5), 1);
        Check.due("somebody is in the line", x.change(0, 1), false);
        Check.due("nothing to undo", x.all(7), 0);
        x.seconds(50);
        Check.due("nobody is in the line", x.change(0, 1), true);
        Check.due("undone", x.undo(), 0);
        Check.due("row(0)", x.row(0), 1);
        Check.due("a run goes by the row as it is", x.waited(10), 5);
        Check.due("and by the row as at first", Check.told(TOLD).waited(10), 2);
    }

    private static void sendAway() {
        EggTrays x = Check.told(TOLD);
        x.seconds(2);
        Check.due("sent", x.send(0), true);
        Check.due("done", Check.look(x, 0, 0), 3);
        Check.due("pos", Check.look(x, 0, 1), -1);
        Check.due("room", Check.look(x, 0, 2), 5);
        Check.due("wants stay", Check.look(x, 0, 3), 1);
        Check.due("takes no more", Check.look(x, 0, 4), 0);
        Check.due("left", Check.look(x, 0, 8), 2);
        Check.due("eaten", Check.look(x, 0, 7), 0);
        Check.due("line", x.line(0), 1);
        Check.due("done already", x.send(0), false);
        Check.due("no such guest", x.send(3), false);
        Check.due("guest -1", x.send(-1), false);
        Check.due("one to come", x.send(2), true);
        Check.due("done", Check.look(x, 2, 0), 3);
        Check.due("undo", x.undo(), 1);
        Check.due("to come", Check.look(x, 2, 0), 0);
        Check.due("undo", x.undo(), 0);
        Check.due("first again", x.line(0), 0);
        Check.due("takes yet", Check.look(x, 0, 4), 1);
        Check.due("room again", Check.look(x, 0, 2), 3);
        Check.due("nothing left", x.all(10), 0);
        x.send(0);
        x.seconds(1);
        Check.due("the place is free", Check.look(x, 1, 4), 2);
        x.send(2);
        x.seconds(300);
        Check.due("never came", Check.look(x, 2, 10), 0);
        EggTrays y = Check.told("station a 1 1;guest p 0 1 wants a 2;again 9;");
        y.seconds(3);
        Check.due("sits", Check.look(y, 0, 0), 2);
        Check.due("sent while sitting", y.send(0), true);
        Check.due("undo that", y.undo(), 0);
        Check.due("sits", Check.look(y, 0, 0), 2);
        y.send(0);
        y.seconds(30);
        Check.due("came once", Check.look(y, 0, 10), 1);
    }

    private static void undoing() {
        EggTrays x = Check.told(TOLD);
        for (int i = 1; i <= 25; i++) {
            Check.due("put " + i, x.put(2), 2 + 2 * i);
            Check.due("to undo", x.all(7), i < 20 ? i : 20);
        }
        for (int i = 19; i >= 0; i--) {
            Check.due("undo", x.undo(), i);
            Check.due("portions", x.station(2, 2), 12 + 2 * i);
        }
        Check.due("no more", x.undo(), -1);
        Check.due("five stay", x.station(2, 8), 5);
        x.change(0, 1);
        x.put(0);
        x.send(1);
        Check.due("seconds(0)", x.seconds(0), 0);
        Check.due("nothing went by", x.all(7), 3);
        x.seconds(-1);
        x.seconds(901);
        Check.due("nothing went by", x.all(7), 3);
        x.undo();
        Check.due("guest to come", Check.look(x, 1, 0), 0);
        x.send(0);
        x.undo();
        x.undo();
        Check.due("portions", x.station(0, 2), 4);
        Check.due("the row is changed yet", x.row(0), 1);
        Check.due("the last", x.undo(), 0);
        Check.due("row", x.row(0), 0);
        x.put(0);
        x.seconds(1);
        Check.due("a second went by", x.undo(), -1);
    }

    private static void images() {
        EggTrays x = Check.told(TOLD);
        Check.due("none", x.back(), -1);
        x.change(0, 1);
        Check.due("keep", x.keep(), 0);
        Check.due("undo is there yet", x.all(7), 1);
        x.seconds(7);
        x.put(0);
        x.count(0, 0, 1, 1);
        Check.due("back", x.back(), 0);
        Check.due("nothing to undo", x.undo(), -1);
        Check.due("row", x.row(0), 1);
        Check.due("second", x.all(4), 0);
        Check.due("guest", Check.look(x, 0, 0), 0);
        Check.due("counts are not kept in it", x.all(5), 1);
        x.seconds(2);
        int portions = x.station(0, 2);
        int takes = Check.look(x, 0, 4);
        Check.due("keep another", x.keep(), 2);
        x.seconds(500);
        Check.due("back", x.back(), 2);
        Check.due("portions", x.station(0, 2), portions);
        Check.due("takes", Check.look(x, 0, 4), takes);
        Check.due("line", x.line(0), 0);
        x.seconds(800);
        Check.due("back once more", x.back(), 2);
        Check.due("line", x.line(1), 1);
        EggTrays y = Check.told("station a 3 1;guest p 0 5 wants a 2;guest q 0 5 wants a 1;");
        y.seconds(1);
        y.keep();
        y.seconds(20);
        y.back();
        y.seconds(4);
        Check.due("who waited waits there yet", Check.look(y, 1, 6), 1);
        Check.due("three seconds", Check.look(y, 1, 5), 3);
        EggTrays z = Check.told("station a 1 1;guest p 0 1 wants a 2;again 9;");
        z.seconds(3);
        z.keep();
        z.seconds(30);
        z.back();
        z.seconds(7);
        Check.due("sits yet", Check.look(z, 0, 0), 2);
        z.seconds(1);
        Check.due("came again", Check.look(z, 0, 10), 2);
    }

    public static void main(String[] args) {
        putDown();
        changeOver();
        sendAway();
        undoing();
        images();
        Check.end();
    }
}
