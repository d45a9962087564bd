import java.util.Random;

/** The boundary cases of laws, COUNTS, STRIKE, KNOWN and FITS (==== 3) and of promises 26 to 30 and 33, sentence by sentence. */
public final class LawEdgesTest {
    private static final int MIN = Integer.MIN_VALUE;
    private static final int MAX = Integer.MAX_VALUE;
    private static final long NO = Long.MIN_VALUE;

    private static void refused(String what, Twins.Deed call, long due) {
        Twins.leavesAll(what, Twins.BUSY, call, due);
    }

    /** "Long.MIN_VALUE: an ERROR, none such is told, no such ones"; "(0 .. 9999 each; age, late, taken 0; size as room)". */
    private static void laws() {
        for (int kind : new int[] {-1, 3, 4, 6, MIN, MAX}) {
            refused("law(" + kind + ")", x -> x.law(kind, 1, 1, 1, 1), NO);
        }
        refused("leave isn't told", x -> x.law(1, 1, 1, 1, 1), NO);
        for (int name : new int[] {-1, 10000, MIN, MAX}) {
            for (int kind = 0; kind < 3; kind++) {
                int one = kind;
                refused("want " + name, x -> x.law(one, name, 1, 1, 1), NO);
                refused("room " + name, x -> x.law(one, 1, name, 1, 1), NO);
                refused("here " + name, x -> x.law(one, 1, 1, name, 1), NO);
                refused("line " + name, x -> x.law(one, 1, 1, 1, name), NO);
            }
        }
        refused("heap want", x -> x.law(0, 9999, 0, 9999, 0), 9999);
        refused("heap want", x -> x.law(0, 0, 9999, 0, 9999), 0);
        refused("eats taken-1", x -> x.law(2, 5, 9999, 5, 5), -1);
        String[] names = {"want", "room", "here", "line", "size", "age", "late", "taken"};
        for (int i = 0; i < names.length; i++) {
            EggTrays x = Check.told("law leave " + names[i] + ";guest p 0 9;");
            x.seconds(30);
            for (int value : new int[] {0, 1, 9998, 9999}) {
                Check.due(names[i], x.law(1, i == 0 ? value : 7, i == 1 || i == 4 ? value : 7, i == 2 ? value : 7, i == 3 ? value : 7), i < 5 ? value : 0);
            }
        }
        // Right behind a HEAP with an AGE, late and with something on the plate.
        EggTrays heaped = Check.told("station a 1 1;station b 1 1 pan 9 900 0;guest p 5 9 wants a 2 wants b 2;law heap want+age*100+late*10+taken;");
        heaped.seconds(7);
        Check.due("taken in all", Check.look(heaped, 0, 6), 9);
        Check.due("age, late, taken are 0", heaped.law(0, 3, 1, 1, 1), 3);
        for (String e : new String[] {"1/want", "want/(room-1)", "9999*9999*9999*(9999*want+9999)"}) {
            EggTrays x = Check.told("law eats " + e + ";");
            Check.due("an error: " + e, x.law(2, 0, 1, 0, 0), NO);
        }
        Check.due("no law", new EggTrays().law(0, 0, 0, 0, 0), NO);
    }

    /** Each of the three kinds alone: the other two are none. */
    private static void kinds() {
        String[] kinds = {"heap", "leave", "eats"};
        for (int told = 0; told < 3; told++) {
            EggTrays x = Check.told("may heap m 7;law " + kinds[told] + " 4;may leave n 8;may eats o 9;");
            for (int kind = -1; kind <= 3; kind++) {
                Check.due(kinds[told] + " alone: law(" + kind + ")", x.law(kind, 0, 0, 0, 0), kind == told ? 4 : NO);
            }
            Check.tell(x, "pass;");
            Check.due("none such is told now", x.law(told, 0, 0, 0, 0), NO);
        }
    }

    /** Promise 27: "A COUNT at the end of a SECOND 0 .. 3599 (from 0 .. 99, to not below it and 99 at most) .. NONE: no such ones, no pan". */
    private static void countRefused() {
        for (int station : new int[] {-1, 1, 3, 5, MIN, MAX}) {
            refused("count(" + station + ")", x -> x.count(station, 0, 0, 0), -1);
        }
        for (int second : new int[] {-1, 3600, 3601, MIN, MAX}) {
            refused("count at " + second, x -> x.count(0, second, 0, 0), -1);
        }
        int[][] pairs = {{-1, 0}, {-1, -1}, {-1, 99}, {0, -1}, {0, 100}, {1, 0}, {50, 49}, {99, 98}, {99, 100}, {100, 99}, {100, 100}, {0, MAX}, {MIN, 0}, {MAX, MAX}, {MAX, MIN}, {MIN, MIN}};
        for (int[] pair : pairs) {
            refused("count " + pair[0] + " to " + pair[1], x -> x.count(0, 0, pair[0], pair[1]), -1);
        }
        Check.due("no stations", new EggTrays().count(0, 0, 0, 0), -1);
        int[][] good = {{0, 0, 0, 0}, {0, 3599, 0, 99}, {2, 0, 99, 99}, {2, 3599, 0, 1}, {0, 0, 98, 99}, {0, 1, 50, 50}, {0, 3598, 1, 1}};
        EggTrays x = new EggTrays();
        Twins.BUSY.on(x);
        for (int i = 0; i < good.length; i++) {
            Check.due("count", x.count(good[i][0], good[i][1], good[i][2], good[i][3]), 3 + i);
            Check.due("counts", x.all(5), 4 + i);
        }
    }

    private static Twins.Deed filled(int counts) {
        return x -> {
            Twins.BUSY.on(x);
            for (int i = 3; i < counts; i++) {
                if (i % 3 == 0) {
                    x.strike(i - 1);
                } else {
                    x.count(i % 2 * 2, i, 0, 99);
                }
            }
            return x.all(5);
        };
    }

    /** "COUNTS, at most 40, numbered from 0 on"; promise 28 "NONE: no such COUNT, or there are 40". */
    private static void forty() {
        for (int counts : new int[] {38, 39, 40}) {
            EggTrays x = new EggTrays();
            Check.due("counts", filled(counts).on(x), counts);
            Check.due("count behind " + counts, x.count(0, 0, 0, 0), counts < 40 ? counts : -1);
            EggTrays y = new EggTrays();
            filled(counts).on(y);
            Check.due("strike behind " + counts, y.strike(0), counts < 40 ? counts : -1);
            Check.due("at most 40", y.all(5), Math.min(counts + 1, 40));
        }
        Twins.leavesAll("a 41st count", filled(40), x -> x.count(0, 0, 0, 0), -1);
        Twins.leavesAll("a 41st strike", filled(40), x -> x.strike(39), -1);
        Twins.leavesAll("a 41st strike of none", filled(40), x -> x.strike(40), -1);
        EggTrays x = new EggTrays();
        filled(40).on(x);
        for (int n = 0; n <= 40; n++) {
            Check.due("known(" + n + ") of 40", x.known(n), true);
            Check.due("by how many", x.all(6), n);
        }
        Check.due("known(41) of 40", x.known(41), false);
        Check.due("by how many", x.all(6), 40);
        x.back();
        x.text(0);
        Check.due("none with a text", x.all(5), 0);
        Check.due("none is known with a text", x.all(6), 0);
        Check.due("to strike", x.strike(0), -1);
        Check.tell(x, Twins.BUSY_TEXT);
        Check.due("from 0 on", x.count(0, 0, 0, 0), 0);
    }

    /** Promise 28 "A STRIKE: its COUNT's number; NONE: no such COUNT". */
    private static void strikeRefused() {
        for (int count : new int[] {-1, 3, 4, 39, 40, MIN, MAX}) {
            refused("strike(" + count + ")", x -> x.strike(count), -1);
        }
        for (int count = 0; count < 3; count++) {
            EggTrays x = new EggTrays();
            Twins.BUSY.on(x);
            Check.due("strike(" + count + ")", x.strike(count), 3);
            Check.due("strike of the strike", x.strike(3), 4);
            Check.due("not of itself", x.strike(5), -1);
            Check.due("counts", x.all(5), 5);
        }
        Check.due("without counts", new EggTrays().strike(0), -1);
        Check.due("without counts", new EggTrays().strike(-1), -1);
    }

    /** Promise 29: "KNOWN by n COUNTS from now on (-1: by all, also those to come): true; false: no such n". */
    private static void known() {
        for (int n : new int[] {-2, -3, 4, 5, 40, 41, MIN, MAX}) {
            refused("known(" + n + ")", x -> x.known(n) ? 1 : 0, 0);
        }
        EggTrays x = new EggTrays();
        Twins.BUSY.on(x);
        for (int n = 0; n <= 3; n++) {
            Check.due("known(" + n + ")", x.known(n), true);
            Check.due("by how many", x.all(6), n);
            Check.due("counts stay", x.all(5), 3);
        }
        x.count(0, 0, 0, 0);
        Check.due("by 3, not by the one that came", x.all(6), 3);
        Check.due("by all", x.known(-1), true);
        Check.due("by all", x.all(6), 4);
        x.strike(0);
        Check.due("also those to come", x.all(6), 5);
        EggTrays none = new EggTrays();
        Check.due("known(0) of none", none.known(0), true);
        Check.due("known(-1) of none", none.known(-1), true);
        Check.due("known(1) of none", none.known(1), false);
        EggTrays fixed = Check.told("station e 1 1 pan 9 900 0;");
        Check.due("by none", fixed.known(0), true);
        fixed.count(0, 0, 0, 0);
        Check.due("by none yet", fixed.fits(), 1);
        Check.due("by none yet", fixed.all(6), 0);
        fixed.known(-1);
        Check.due("by it", fixed.fits(), 0);
        fixed.known(0);
        Check.tell(fixed, "station e 1 1 pan 9 900 0;");
        fixed.count(0, 0, 0, 0);
        Check.due("all known at first", fixed.fits(), 0);
    }

    /** "the first n that aren't STRUCK by one of these (a STRIKE may be STRUCK: then it doesn't count; asked from the last one on)". */
    private static void struck() {
        Random random = new Random(3);
        for (int run = 0; run < 400; run++) {
            EggTrays x = Check.told("station e 1 1 pan 9 900 0;");
            int size = 1 + random.nextInt(run % 10 == 0 ? 40 : 8);
            int[] strikes = new int[size];
            boolean[] so = new boolean[size];
            for (int i = 0; i < size; i++) {
                strikes[i] = i > 0 && random.nextInt(3) > 0 ? random.nextInt(i) : -1;
                so[i] = random.nextInt(3) > 0;
                int portions = so[i] ? 9 : 8;
                Check.due("number", strikes[i] >= 0 ? x.strike(strikes[i]) : x.count(0, i, portions, portions), i);
            }
            for (int n = -1; n <= size; n++) {
                Check.due("known", x.known(n), true);
                boolean fits = true;
                for (int i = 0; i < (n < 0 ? size : n); i++) {
                    fits = fits && (strikes[i] >= 0 || so[i] || !holds(i, strikes, n < 0 ? size : n));
                }
                Check.due("run " + run + ", known by " + n + ": fits", x.fits(), fits ? 1 : 0);
            }
        }
    }

    private static boolean holds(int count, int[] strikes, int known) {
        for (int i = count + 1; i < known; i++) {
            if (strikes[i] == count && holds(i, strikes, known)) {
                return false;
            }
        }
        return true;
    }

    /** "at the end of a SECOND so many PORTIONS were in a PAN, to so many". */
    private static void counted() {
        // Four are taken in second 5, two in second 9, and five come in second 8.
        String text = "station n 1 1;station e 1 1 pan 5 3 1;guest p 5 9 wants e 4;guest q 9 9 wants e 2;";
        int[] portions = {5, 5, 5, 5, 5, 1, 1, 1, 6, 4, 4};
        for (int second = 0; second < portions.length; second++) {
            for (int from = 0; from <= 7; from++) {
                for (int to = from; to <= 7; to++) {
                    EggTrays x = Check.told(text);
                    x.count(1, second, from, to);
                    Check.due("second " + second + ": " + from + " to " + to, x.fits(), from <= portions[second] && portions[second] <= to ? 1 : 0);
                }
            }
            EggTrays x = Check.told(text);
            for (int i = 0; i <= second; i++) {
                x.count(1, i, portions[i], portions[i]);
            }
            Check.due("all up to " + second, x.fits(), 1);
            x.count(1, 0, 5, 99);
            x.count(1, second, 0, portions[second]);
            Check.due("all up to " + second, x.fits(), 1);
        }
        EggTrays last = Check.told("station e 1 1 pan 5 900 0;guest p 3599 9 wants e 4;");
        last.count(0, 3599, 1, 1);
        last.count(0, 3598, 5, 5);
        Check.due("the last second", last.fits(), 1);
        last.count(0, 3599, 2, 99);
        Check.due("the last second", last.fits(), 0);
        EggTrays most = Check.told("station e 1 1 pan 60 1 59;station f 1 1 pan 50 40 59;guest p 3 9 wants e 1;");
        most.count(1, 39, 50, 50);
        most.count(1, 40, 99, 99);
        Check.due("a hundred are above 99", most.fits(), 0);
    }

    /** "MAY (bits; the bit behind all: laws as told) by which, instead of the law of its KIND, all KNOWN COUNTS are so in a RUN". */
    private static void fits() {
        StringBuilder text = new StringBuilder("station e 1 1 pan 9 900 0;guest p 0 9 wants e 9;law heap 1;");
        for (int mays = 0; mays <= 4; mays++) {
            EggTrays x = Check.told(text.toString());
            Check.due(mays + " may, nothing counted", x.fits(), (2 << mays) - 1);
            for (int heap = 0; heap <= 6; heap++) {
                EggTrays y = Check.told(text.toString());
                y.count(0, 0, 9 - heap, 9 - heap);
                Check.due(mays + " may, heap of " + heap, y.fits(), heap == 1 ? 1 << mays : heap >= 2 && heap < 2 + mays ? 1 << (heap - 2) : 0);
            }
            text.append("may heap m").append((char) ('a' + mays)).append(' ').append(2 + mays).append(';');
            if (mays == 3) {
                break;
            }
        }
        EggTrays four = Check.told(text.toString());
        Check.due("four may", four.fits(), 31);
        four.count(0, 0, 4, 4);
        Check.due("the last of four", four.fits(), 8);
        Check.due("a fifth", Check.tell(four, text + "may heap n 1;"), -1);
        Check.due("without a text", new EggTrays().fits(), 1);
        refused("fits()", x -> x.fits(), 0);
        Twins.Deed byOne = x -> {
            Twins.BUSY.on(x);
            return x.known(1) ? 1 : 0;
        };
        Twins.leavesAll("fits() by the first alone", byOne, x -> x.fits(), 7);
        // Each KIND for itself: q waits in 0 or leaves e out, has one less in 3; p comes again or not.
        String kinds = "station e 3 1 pan 9 900 0;guest p 0 2 wants e 2;guest q 0 9 wants e 3;";
        EggTrays y = Check.told(kinds + "may leave go 1;may eats none 0;may heap one 1;");
        y.count(0, 3, 4, 4);
        Check.due("as told, or what is eaten", y.fits(), 2 | 8);
        y.strike(0);
        y.count(0, 3, 7, 7);
        Check.due("leaves it out, or heaps one", y.fits(), 1 | 4);
        y.count(0, 0, 8, 8);
        Check.due("heaps one", y.fits(), 4);
        Check.due("the law as told is none yet", y.law(0, 1, 1, 1, 1), NO);
    }

    /** FITS is "in a RUN": from 0 on, by the row as it is now, nothing else done by hand. */
    private static void fitsInARun() {
        String text = "station a 1 1 pan 9 900 0;station b 1 1 pan 9 900 0;guest p 3 9 wants a 2 wants b 2;";
        EggTrays x = Check.told(text);
        x.count(0, 3, 7, 7);
        x.count(1, 3, 9, 9);
        Check.due("as at first", x.fits(), 1);
        x.put(0);
        x.send(0);
        x.seconds(60);
        Check.due("whatever is done by hand", x.fits(), 1);
        x.change(0, 1);
        Check.due("by the row as it is", x.fits(), 0);
        x.undo();
        Check.due("undone", x.fits(), 1);
    }

    /** Promise 33: each what of a new object, of one that is full, "NONE for another what". */
    private static void all() {
        for (int what : new int[] {-1, 13, 14, MIN, MAX}) {
            refused("all(" + what + ")", x -> x.all(what), -1);
            Check.due("all(" + what + ")", new EggTrays().all(what), -1);
        }
        EggTrays none = new EggTrays();
        for (int what = 0; what <= 12; what++) {
            Check.due("all(" + what + ") of a new object", none.all(what), 0);
        }
        StringBuilder text = new StringBuilder();
        for (char c = 'a'; c < 'f'; c++) {
            text.append("station ").append(c).append(" 240 1 pan 60 900 0;");
        }
        for (char c = 'a'; c < 'j'; c++) {
            text.append("guest ").append(c).append(" 0 20 wants a 9;");
        }
        text.append("may heap a 1;may heap b 1;may heap c 1;may heap d 1;law eats not 1").append("+1".repeat(29)).append(";");
        EggTrays x = Check.told(text.toString());
        x.seconds(1);
        for (int i = 0; i < 20; i++) {
            x.put(4);
            x.count(0, 0, 0, 0);
            x.strike(i);
        }
        int[] due = {5, 9, 4, 64, 1, 40, 40, 20, 9, 9, 0, 5 * 60 - 9 + 20 * 60, 8};
        for (int what = 0; what <= 12; what++) {
            Check.due("all(" + what + ")", x.all(what), due[what]);
        }
    }

    public static void main(String[] args) {
        laws();
        kinds();
        countRefused();
        forty();
        strikeRefused();
        known();
        struck();
        counted();
        fits();
        fitsInARun();
        all();
        Check.end();
    }
}
