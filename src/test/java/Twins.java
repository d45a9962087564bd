import java.util.ArrayList;
import java.util.List;

/** Two objects with the same past, of which one alone hears a call more: whatever is asked then, both must answer the same. */
final class Twins {
    /** Something done with an object, with its answer (a boolean counts 1 or 0). */
    interface Deed {
        long on(EggTrays x);
    }

    /** Asks an object things, and writes down what it answers. */
    private interface Probe {
        void ask(EggTrays x, List<Long> answers);
    }

    static final Deed NOTHING = x -> 0;

    /** A table in full use: pans on their way, a line, one who sits, an image, deeds, counts, something on the tape. */
    static final String BUSY_TEXT = "station a 3 1 pan 4 9 1 cold 5;station b 3 1;station c 2 1 pan 2 9 0;"
            + "guest p 0 3 wants a 2 wants b 2;guest q 1 5 wants a 1 wants c 1;guest r 9 5 wants c 1 wants b 1;guest s 60 5 wants b 1;"
            + "again 5;law eats taken-1;law heap want;may heap half want/2;may leave go late>2;";

    static final Deed BUSY = x -> {
        Check.tell(x, "station z 0");
        Check.tell(x, BUSY_TEXT);
        x.change(0, 1);
        x.seconds(7);
        x.keep();
        x.seconds(4);
        x.count(0, 3, 2, 9);
        x.count(2, 4, 0, 1);
        x.strike(0);
        x.known(2);
        x.put(0);
        x.send(3);
        x.put(2);
        x.feed(0x70617373, 0x3b616761, 0x696e2039, 0x3b202020, 0x20202020);
        return 0;
    };

    private static final Probe[] PROBES = {Twins::observe, Twins::undoAll, Twins::goOn, Twins::goBack, Twins::tape, Twins::counts, Twins::runs};

    private Twins() {
    }

    static void observe(EggTrays x, List<Long> answers) {
        answers.add((long) x.fault(0));
        answers.add((long) x.fault(1));
        table(x, answers);
        for (int letter = 1; letter <= 26; letter++) {
            for (int what = 0; what < 3; what++) {
                answers.add((long) x.named(what, letter << 25));
            }
        }
        for (int kind = 0; kind < 3; kind++) {
            answers.add(x.law(kind, 7, 5, 3, 2));
        }
        answers.add((long) x.fits());
    }

    private static void table(EggTrays x, List<Long> answers) {
        for (int what = 0; what <= 12; what++) {
            answers.add((long) x.all(what));
        }
        for (int i = 0; i < x.all(1); i++) {
            for (int what = 0; what <= 10; what++) {
                answers.add((long) Check.look(x, i, what));
            }
            answers.add((long) x.line(i));
        }
        for (int i = 0; i < x.all(0); i++) {
            for (int what = 0; what <= 9; what++) {
                answers.add((long) x.station(i, what));
            }
            answers.add((long) x.row(i));
        }
    }

    private static void undoAll(EggTrays x, List<Long> answers) {
        for (int i = 0; i < 22; i++) {
            answers.add((long) x.undo());
            answers.add((long) x.all(8));
            answers.add((long) x.all(10));
            answers.add((long) x.all(11));
            answers.add((long) x.row(0));
        }
        table(x, answers);
    }

    private static void goOn(EggTrays x, List<Long> answers) {
        for (int i = 0; i < 12; i++) {
            answers.add((long) x.seconds(i));
            answers.add((long) x.all(8));
            answers.add((long) x.all(9));
            answers.add((long) x.all(12));
        }
        table(x, answers);
        answers.add((long) x.seconds(900));
        table(x, answers);
    }

    private static void goBack(EggTrays x, List<Long> answers) {
        answers.add((long) x.back());
        table(x, answers);
        answers.add((long) x.undo());
        answers.add((long) x.seconds(30));
        table(x, answers);
    }

    private static void tape(EggTrays x, List<Long> answers) {
        int fed = x.feed(0x0a0a0a0a, 0x70617373, 0x3b616761, 0x696e2031, 0x3b202020);
        answers.add((long) fed);
        for (int n = 820; n >= 0; n -= 20) {
            answers.add((long) x.text(n));
            answers.add((long) x.fault(0));
            answers.add((long) x.fault(1));
        }
        answers.add((long) x.all(0));
    }

    private static void counts(EggTrays x, List<Long> answers) {
        answers.add((long) x.fits());
        answers.add((long) x.all(6));
        for (int known = -1; known <= 5; known++) {
            answers.add(x.known(known) ? 1L : 0L);
            answers.add((long) x.fits());
        }
        answers.add((long) x.count(0, 2, 2, 2));
        answers.add((long) x.strike(1));
        for (int known = -1; known <= 40; known++) {
            answers.add(x.known(known) ? 1L : 0L);
            answers.add((long) x.fits());
        }
    }

    private static void runs(EggTrays x, List<Long> answers) {
        for (int n = 0; n <= 50; n += 10) {
            answers.add((long) x.waited(n));
            answers.add((long) x.worth(n));
            for (int i = 0; i < 4; i++) {
                answers.add((long) x.slow(i, n));
                answers.add((long) x.seen(i, n));
                answers.add((long) x.best(n, i));
                answers.add((long) x.plates(3, n, i));
                answers.add((long) x.many(i, n, 2));
                answers.add((long) x.bus(i, 2, 3, n));
                answers.add((long) x.fill(i, n, 1, 2, n / 10 % 2));
                answers.add((long) x.rule(i, n, 2, 1, n / 10 % 2));
                answers.add((long) x.chance(i, 4, n, 5));
            }
        }
    }

    /** The call answers what is due, and leaves all as it was: for a refused call, and for one that only asks. */
    static void leavesAll(String what, Deed past, Deed call, long due) {
        for (int i = 0; i < PROBES.length; i++) {
            EggTrays one = new EggTrays();
            EggTrays other = new EggTrays();
            past.on(one);
            past.on(other);
            Check.due(what, call.on(one), due);
            List<Long> answers = new ArrayList<>();
            List<Long> others = new ArrayList<>();
            PROBES[i].ask(one, answers);
            PROBES[i].ask(other, others);
            Check.due(what + " leaves all as it was (probe " + i + ")", answers.equals(others), true);
        }
    }

    /** All that can be seen of an object without changing it. */
    static List<Long> seen(EggTrays x) {
        List<Long> answers = new ArrayList<>();
        observe(x, answers);
        return answers;
    }
}
