/** Promises 15 to 25: runs and what would be otherwise, worked out by hand. */
public final class RunsTest {
    private static final int MIN = Integer.MIN_VALUE;
    // q waits three seconds behind p.
    private static final String TWO = "station a 3 1;guest p 0 5 wants a 2;guest q 0 5 wants a 1;";
    // By this row q takes a at once, then is blocked for four seconds; by the other one for five.
    private static final String CROSSED = "guest p 0 5 wants b 1;guest q 0 5 wants a 1;";
    private static final String PLATES = "station b 1 1;guest p 0 2 wants b 5;again 4;law eats taken-1;";

    private static void waited() {
        EggTrays x = Check.told(TWO);
        Check.due("waited(0)", x.waited(0), 0);
        Check.due("waited(2)", x.waited(2), 2);
        Check.due("waited(10)", x.waited(10), 3);
        Check.due("waited(3600)", x.waited(3600), 3);
        Check.due("waited(3601)", x.waited(3601), -1);
        Check.due("waited(-1)", x.waited(-1), -1);
        x.send(0);
        x.seconds(50);
        x.put(0);
        Check.due("nothing by hand in a run", x.waited(10), 3);
        Check.due("a run leaves the table", x.all(12), 0);
        Check.due("a run leaves the second", x.all(4), 50);
    }

    private static void slow() {
        EggTrays x = Check.told(TWO);
        Check.due("slow(0)", x.slow(0, 10), 3);
        Check.due("slow(1)", x.slow(1, 10), 0);
        Check.due("slow(0) of 2", x.slow(0, 2), 2);
        Check.due("slow(2)", x.slow(2, 10), MIN);
        Check.due("slow(-1)", x.slow(-1, 10), MIN);
        Check.due("slow n", x.slow(0, 3601), MIN);
        Check.due("slow n below 0", x.slow(0, -1), MIN);
        // Without q, r waits at a for p; with q it waits longer.
        EggTrays y = Check.told(TWO + "guest r 0 5 wants a 1;");
        Check.due("waited", y.waited(20), 9);
        Check.due("slow(0)", y.slow(0, 20), 6);
        Check.due("slow(1)", y.slow(1, 20), 3);
        Check.due("slow(2)", y.slow(2, 20), 0);
        // Without p, q empties the pan and r misses it: nobody waits; one can be worth less than nothing.
        EggTrays z = Check.told("station a 1 1 pan 1 900 0;station b 9 1;guest p 0 1 wants a 1;guest q 1 1 wants a 1 wants b 1;guest r 1 1 wants b 1;pass;");
        Check.due("slow below 0 or not", z.slow(0, 30), z.waited(30) - Check.told("station a 1 1 pan 1 900 0;station b 9 1;guest q 1 1 wants a 1 wants b 1;guest r 1 1 wants b 1;pass;").waited(30));
    }

    private static void many() {
        EggTrays x = Check.told(TWO);
        Check.due("many bound 3", x.many(0, 10, 3), 1);
        Check.due("many bound 2", x.many(0, 10, 2), 2);
        Check.due("many bound 0", x.many(0, 10, 0), 2);
        Check.due("many bound 99999", x.many(0, 10, 99999), 1);
        Check.due("bound -1", x.many(0, 10, -1), -1);
        Check.due("bound 100000", x.many(0, 10, 100000), -1);
        Check.due("no such station", x.many(1, 10, 3), -1);
        Check.due("no such n", x.many(0, 3601, 3), -1);
        Check.due("places stay", x.station(0, 1), 1);
        EggTrays y = Check.told("station a 3 1;station b 9 4;guest p 0 5 wants a 1;guest q 0 5 wants a 1;guest r 0 5 wants a 1;guest s 0 5 wants a 1;guest t 0 5 wants a 1;");
        Check.due("not even 4", y.many(0, 30, 2), -2);
        Check.due("4", y.many(0, 30, 3), 4);
        Check.due("another one doesn't help", y.many(1, 30, 29), -2);
        Check.due("waited", y.waited(30), 30);
    }

    private static void best() {
        EggTrays x = Check.told("station a 1 1;station b 5 1;" + CROSSED);
        Check.due("best", x.best(20, 0), 4);
        Check.due("first", x.best(20, 1), 0);
        Check.due("second", x.best(20, 2), 1);
        Check.due("what 3", x.best(20, 3), -1);
        Check.due("what -1", x.best(20, -1), -1);
        Check.due("n", x.best(3601, 0), -1);
        Check.due("n below 0", x.best(-1, 0), -1);
        x.change(0, 1);
        Check.due("of all rows", x.best(20, 0), 4);
        Check.due("by this row", x.waited(20), 5);
        EggTrays y = Check.told("station b 5 1;station a 1 1;" + CROSSED);
        Check.due("best", y.best(20, 0), 4);
        Check.due("first", y.best(20, 1), 1);
        Check.due("second", y.best(20, 2), 0);
        Check.due("the row stays", y.row(0), 0);
        EggTrays z = Check.told("station a 1 1;station b 1 1;station c 1 1;station d 1 1;station e 1 1;");
        for (int i = 0; i < 5; i++) {
            Check.due("of several the first", z.best(20, i + 1), i);
        }
        Check.due("no stations", Check.told("guest p 0 1;").best(1, 0), -1);
    }

    private static void seen() {
        EggTrays x = Check.told("station x 1 1;station y 1 1;guest p 0 2 wants x 2 wants y 2;");
        Check.due("seen(0)", x.seen(0, 5), 2);
        Check.due("seen(1)", x.seen(1, 5), 2);
        Check.due("seen of 0 seconds", x.seen(0, 0), 0);
        Check.due("seen(2)", x.seen(2, 5), MIN);
        Check.due("seen(-1)", x.seen(-1, 5), MIN);
        Check.due("seen n", x.seen(0, 3601), MIN);
        // z last: x, y take 1 each, z 1; z first: 3. y's place among the others counts by the row as it is.
        EggTrays z = Check.told("station x 1 1;station y 1 1;station z 1 1;guest p 0 3 wants x 1 wants y 2 wants z 3;");
        Check.due("seen(2)", z.seen(2, 9), 3);
        Check.due("seen(0)", z.seen(0, 9), 1);
        EggTrays w = Check.told("station x 1 1;station y 4 1;station z 1 1;guest p 0 5 wants x 1 wants y 1 wants z 1;");
        Check.due("in order", w.seen(2, 2), 1);
        Check.due("x ahead of y", w.seen(0, 6), 0);
        Check.due("x last, y ahead", w.seen(0, 5), 1);
        // s last: q comes to it at second 6 by a, b, at second 5 by b, a.
        EggTrays v = Check.told("station a 5 1;station b 1 1;station s 1 1;guest p 0 5 wants a 1;guest q 0 5 wants b 1 wants s 1;");
        Check.due("all else in order", v.seen(2, 6), 1);
        v.change(0, 1);
        Check.due("all else in the order of the row as it is", v.seen(2, 6), 0);
        Check.due("one station", Check.told(TWO).seen(0, 9), 0);
    }

    private static void plates() {
        EggTrays x = Check.told(PLATES);
        int[][] due = {{1, 4, 4, 3, 0}, {2, 5, 3, 2, 0}, {5, 5, 1, 0, 0}, {20, 5, 1, 0, 0}};
        for (int[] d : due) {
            for (int what = 0; what < 4; what++) {
                Check.due("plates(" + d[0] + ", 20, " + what + ")", x.plates(d[0], 20, what), d[what + 1]);
            }
        }
        Check.due("size 0", x.plates(0, 20, 0), -1);
        Check.due("size 21", x.plates(21, 20, 0), -1);
        Check.due("n", x.plates(1, 3601, 0), -1);
        Check.due("what 4", x.plates(1, 20, 4), -1);
        Check.due("what -1", x.plates(1, 20, -1), -1);
        Check.due("sizes stay", Check.look(x, 0, 2), 2);
        Check.due("waited", Check.told(TWO).plates(1, 20, 3), 3);
    }

    private static void worth() {
        EggTrays x = Check.told("station a 1 1;station b 5 1;" + CROSSED);
        Check.due("worth", x.worth(20), 4);
        Check.due("worth of 3", x.worth(3), 2);
        Check.due("n", x.worth(3601), MIN);
        Check.due("n below 0", x.worth(-1), MIN);
        Check.due("pass told or not", Check.told("station a 1 1;station b 5 1;pass;" + CROSSED).worth(20), 4);
        Check.due("nothing to go by", Check.told(TWO).worth(20), 0);
    }

    private static void fillAndRule() {
        EggTrays x = Check.told("station n 1 1;station e 1 1 pan 1 3 0;guest p 5 9 wants e 1;");
        Check.due("no empty second", x.fill(1, 10, 1, 0, 0), 1);
        Check.due("how much", x.fill(1, 10, 1, 0, 1), 0);
        Check.due("few at the end", x.fill(1, 10, 0, 1, 0), 0);
        Check.due("how much", x.fill(1, 10, 0, 1, 1), 1);
        Check.due("of several the least", x.fill(1, 10, 1, 3, 0), 0);
        Check.due("how much", x.fill(1, 10, 1, 3, 1), 6);
        Check.due("rule: no empty second", x.rule(1, 10, 1, 0, 0), 2);
        Check.due("how much", x.rule(1, 10, 1, 0, 1), 0);
        Check.due("rule: few at the end", x.rule(1, 10, 0, 1, 0), 1);
        Check.due("how much", x.rule(1, 10, 0, 1, 1), 1);
        Check.due("rule by 1 and 99", x.rule(1, 10, 1, 99, 1), 99);
        for (int[] wrong : new int[][] {{0, 10, 1, 1, 0}, {2, 10, 1, 1, 0}, {-1, 10, 1, 1, 0}, {1, 3601, 1, 1, 0}, {1, -1, 1, 1, 0},
            {1, 10, 100, 1, 0}, {1, 10, -1, 1, 0}, {1, 10, 1, 100, 0}, {1, 10, 1, -1, 0}, {1, 10, 1, 1, 2}, {1, 10, 1, 1, -1}}) {
            Check.due("wrong fill", x.fill(wrong[0], wrong[1], wrong[2], wrong[3], wrong[4]), -1);
            Check.due("wrong rule", x.rule(wrong[0], wrong[1], wrong[2], wrong[3], wrong[4]), -1);
        }
        Check.due("the pan stays", x.station(1, 2), 1);
        Check.due("weights of 99", x.fill(1, 10, 99, 99, 1), 198);
        Check.due("weights of 99", x.rule(1, 10, 99, 99, 1), 99);
        Check.due("weights of 0", x.rule(1, 10, 0, 0, 0), 1);
        // With 60 the pan lasts up to the last guest; with 59 from order it is filled at 100, else at 150.
        EggTrays all = Check.told("station e 1 4 pan 5 900 0;guest a 0 9 wants e 9;guest b 10 9 wants e 9;guest c 20 9 wants e 9;guest d 30 9 wants e 9;"
                + "guest e 40 9 wants e 9;guest f 50 9 wants e 9;guest g 60 9 wants e 5;guest h 70 9 wants e 1;pass;");
        Check.due("60 in one", all.rule(0, 80, 1, 0, 0), 60);
        Check.due("how much", all.rule(0, 80, 1, 0, 1), 10);
        EggTrays soon = Check.told("station e 1 4 pan 60 100 0;guest a 0 9 wants e 1;guest b 50 9 wants e 9;guest c 50 9 wants e 9;guest d 50 9 wants e 9;"
                + "guest e 50 9 wants e 9;guest f 50 9 wants e 9;guest g 50 9 wants e 9;guest h 50 9 wants e 9;pass;");
        Check.due("from 59", soon.fill(0, 200, 1, 0, 0), 59);
        Check.due("how much", soon.fill(0, 200, 1, 0, 1), 49);
        EggTrays z = Check.told("station e 1 1 pan 7 900 0;");
        Check.due("rule at 0 seconds", z.rule(0, 0, 9, 1, 0), 1);
        Check.due("fill at 0 seconds", z.fill(0, 0, 9, 99, 1), 693);
    }

    private static void bus() {
        EggTrays x = Check.told(TWO);
        Check.due("two more", x.bus(0, 2, 0, 30), 15);
        Check.due("one more, late", x.bus(1, 1, 100, 200), 0);
        Check.due("six more, late", x.bus(1, 6, 100, 200), 45);
        Check.due("one more at 4", x.bus(1, 1, 4, 30), 2);
        Check.due("the last second", x.bus(1, 2, 3599, 3600), 1);
        for (int[] wrong : new int[][] {{2, 1, 0, 9}, {-1, 1, 0, 9}, {0, 0, 0, 9}, {0, 7, 0, 9}, {0, 1, -1, 9}, {0, 1, 3600, 9}, {0, 1, 0, 3601}, {0, 1, 0, -1}}) {
            Check.due("wrong bus", x.bus(wrong[0], wrong[1], wrong[2], wrong[3]), MIN);
        }
        Check.due("guests stay", x.all(1), 2);
        StringBuilder nine = new StringBuilder("station a 1 1;pass;");
        for (int i = 0; i < 9; i++) {
            nine.append("guest ").append((char) ('a' + i)).append(" 0 1 wants a 1;");
        }
        // Fifteen in a row wait 0 + 1 + .. + 14, nine 0 + .. + 8.
        Check.due("nine and six", Check.told(nine.toString()).bus(8, 6, 0, 60), 105 - 36);
    }

    /** How long one waits for the other at a station of three seconds. */
    private static int waitOf(int p, int q) {
        return Math.max(0, 3 - Math.abs(p - q));
    }

    private static void chance() {
        EggTrays x = Check.told(TWO);
        Check.due("no chance", x.chance(7, 0, 10, 2), 10);
        Check.due("no chance", x.chance(7, 0, 10, 3), 0);
        for (int seed : new int[] {0, 1, 42, 65535, 123456789, 2147483647}) {
            for (int j : new int[] {1, 2, 3, 7, 600}) {
                for (int bound = 0; bound < 3; bound++) {
                    long last = seed;
                    int above = 0;
                    for (int draw = 0; draw < 10; draw++) {
                        last = Math.floorMod(last * 1103515245L + 12345L, 1L << 31);
                        int p = (int) (last >> 16) % (j + 1);
                        last = Math.floorMod(last * 1103515245L + 12345L, 1L << 31);
                        int q = (int) (last >> 16) % (j + 1);
                        above += waitOf(p, q) > bound ? 1 : 0;
                    }
                    Check.due("chance(" + seed + ", " + j + ", 700, " + bound + ")", x.chance(seed, j, 700, bound), above);
                }
            }
        }
        EggTrays late = Check.told("station a 1 1;guest p 3599 5 wants a 2;guest q 3599 5 wants a 1;");
        Check.due("3599 at most", late.chance(5, 600, 3600, 0), 10);
        Check.due("3599 at most", late.chance(5, 1, 3600, 0), 10);
        Check.due("bound 99999", x.chance(0, 0, 10, 99999), 0);
        Check.due("the largest seed and j", x.chance(2147483647, 600, 0, 0), 0);
        for (int[] wrong : new int[][] {{-1, 0, 9, 0}, {0, -1, 9, 0}, {0, 601, 9, 0}, {0, 0, -1, 0}, {0, 0, 3601, 0}}) {
            Check.due("wrong chance", x.chance(wrong[0], wrong[1], wrong[2], wrong[3]), -1);
        }
    }

    public static void main(String[] args) {
        waited();
        slow();
        many();
        best();
        seen();
        plates();
        worth();
        fillAndRule();
        bus();
        chance();
        Check.end();
    }
}
