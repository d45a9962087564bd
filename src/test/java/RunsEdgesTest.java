/** The boundary cases of RUN, SLOW, MANY, BEST ROW .. CHANCE (==== 3) and of promises 15 to 25, sentence by sentence. */
public final class RunsEdgesTest {
    private static final int MIN = Integer.MIN_VALUE;
    private static final int MAX = Integer.MAX_VALUE;
    private static final int[] NO_LENGTH = {-1, 3601, MIN, MAX};
    private static final int[] NO_STATION = {-1, 3, 5, MIN, MAX};
    private static final int[] NO_PAN = {1, -1, 3, 5, MIN, MAX};
    private static final int[] NO_GUEST = {-1, 4, 9, 15, MIN, MAX};
    private static final int[] NO_WEIGHT = {-1, 100, MIN, MAX};
    // q waits three seconds behind p.
    private static final String TWO = "station a 3 1;guest p 0 5 wants a 2;guest q 0 5 wants a 1;";
    // q takes a at once, then is blocked for four seconds.
    private static final String CROSSED = "station a 1 1;station b 5 1;guest p 0 5 wants b 1;guest q 0 5 wants a 1;";

    private static void refused(String what, Twins.Deed call, long due) {
        Twins.leavesAll(what, Twins.BUSY, call, due);
    }

    /** What is asked at a busy table is as at one where nothing but the ROW was changed, and asking leaves all as it was. */
    private static void asked(String what, Twins.Deed call) {
        EggTrays x = Check.told(Twins.BUSY_TEXT);
        x.change(0, 1);
        long due = call.on(x);
        Twins.leavesAll(what, Twins.BUSY, call, due);
        Check.due(what + " is one that is", due != MIN && due != -1, true);
    }

    /** "A RUN is n SECONDS from 0 on", "WAITED of a RUN of n SECONDS (0 .. 3600); NONE: no such n". */
    private static void waited() {
        for (int n : NO_LENGTH) {
            refused("waited(" + n + ")", x -> x.waited(n), -1);
        }
        for (int n : new int[] {0, 1, 20, 3599, 3600}) {
            asked("waited(" + n + ")", x -> x.waited(n));
        }
        int[] due = {0, 1, 2, 3, 3, 3};
        EggTrays x = Check.told(TWO);
        for (int n = 0; n < due.length; n++) {
            Check.due("waited(" + n + ")", x.waited(n), due[n]);
        }
        EggTrays last = Check.told("station a 3 1;guest p 3599 5 wants a 2;guest q 3599 5 wants a 1;");
        Check.due("not yet", last.waited(3599), 0);
        Check.due("the last second", last.waited(3600), 1);
        EggTrays none = new EggTrays();
        Check.due("without a text", none.waited(0), 0);
        Check.due("without a text", none.waited(3600), 0);
        Check.due("without a text", none.waited(3601), -1);
        Check.due("without a text", none.waited(-1), -1);
    }

    /** "by the ROW as it is now, nothing else done by hand". */
    private static void byTheRow() {
        EggTrays x = Check.told(CROSSED + "station c 1 1 pan 1 9 0;");
        Check.due("as at first", x.waited(20), 4);
        x.put(2);
        x.send(0);
        x.change(0, 1);
        Check.due("the row as it is", x.waited(20), 5);
        x.seconds(900);
        Check.due("whatever is now", x.waited(20), 5);
        x.keep();
        x.change(0, 1);
        Check.due("changed again", x.waited(20), 4);
        x.undo();
        Check.due("undone", x.waited(20), 5);
        x.change(1, 0);
        x.back();
        Check.due("back", x.waited(20), 5);
    }

    /** "WAITED less that of one without a GUEST (that one's own left out of both). Integer.MIN_VALUE: no such ones". */
    private static void slow() {
        for (int guest : NO_GUEST) {
            refused("slow(" + guest + ", 20)", x -> x.slow(guest, 20), MIN);
        }
        for (int n : NO_LENGTH) {
            refused("slow(0, " + n + ")", x -> x.slow(0, n), MIN);
        }
        for (int guest = 0; guest < 4; guest++) {
            int one = guest;
            asked("slow(" + guest + ", 0)", x -> x.slow(one, 0));
            asked("slow(" + guest + ", 3600)", x -> 1000 + x.slow(one, 3600));
        }
        EggTrays x = Check.told(TWO);
        for (int n = 0; n <= 5; n++) {
            Check.due("slow(0, " + n + ")", x.slow(0, n), Math.min(n, 3));
            Check.due("slow(1, " + n + ")", x.slow(1, n), 0);
        }
        Check.due("the only one", Check.told("station a 1 1;guest p 0 1 wants a 1;").slow(0, 99), 0);
        // With p, q misses e and takes b with r in second 4; without p, q takes e, and r is blocked in seconds 4 and 5.
        EggTrays less = Check.told("station e 3 1 pan 1 900 0;station b 3 2;guest p 0 9 wants e 1;guest q 3 9 wants e 1 wants b 1;guest r 4 9 wants b 1;");
        Check.due("with p", less.waited(90), 0);
        Check.due("below 0", less.slow(0, 90), -2);
        StringBuilder nine = new StringBuilder("station a 1 1;");
        for (int i = 0; i < 9; i++) {
            nine.append("guest ").append((char) ('a' + i)).append(" 0 1 wants a 1;");
        }
        EggTrays y = Check.told(nine.toString());
        for (int guest = 0; guest < 9; guest++) {
            Check.due("of nine, without " + guest, y.slow(guest, 90), 8 - guest);
        }
        Check.due("a tenth", y.slow(9, 90), MIN);
    }

    /** "MANY (a bound 0 .. 99999); -2: not even 4; NONE: no such ones." */
    private static void many() {
        for (int station : NO_STATION) {
            refused("many(" + station + ", 20, 5)", x -> x.many(station, 20, 5), -1);
        }
        for (int n : NO_LENGTH) {
            refused("many(0, " + n + ", 5)", x -> x.many(0, n, 5), -1);
        }
        for (int bound : new int[] {-1, 100000, MIN, MAX}) {
            refused("many(0, 20, " + bound + ")", x -> x.many(0, 20, bound), -1);
        }
        for (int station = 0; station < 3; station++) {
            int one = station;
            asked("many(" + station + ", 3600, 0)", x -> x.many(one, 3600, 0));
            asked("many(" + station + ", 3600, 99999)", x -> x.many(one, 3600, 99999));
            asked("many(" + station + ", 0, 0)", x -> x.many(one, 0, 0));
        }
        // Five who take three seconds each, by 1 .. 4 places.
        int[] waited = {30, 12, 6, 3};
        for (int told = 1; told <= 4; told++) {
            EggTrays x = Check.told("station a 3 " + told + ";guest p 0 5 wants a 1;guest q 0 5 wants a 1;guest r 0 5 wants a 1;guest s 0 5 wants a 1;guest t 0 5 wants a 1;");
            Check.due("as told", x.waited(60), waited[told - 1]);
            for (int places = 1; places <= 4; places++) {
                int bound = waited[places - 1];
                Check.due("at the bound", x.many(0, 60, bound), places);
                Check.due("one above", x.many(0, 60, bound + 1), places);
                Check.due("one below", x.many(0, 60, bound - 1), places < 4 ? places + 1 : -2);
            }
            Check.due("bound 0", x.many(0, 60, 0), -2);
            Check.due("0 seconds", x.many(0, 0, 0), 1);
            Check.due("places stay", x.station(0, 1), told);
        }
        Check.due("no stations", new EggTrays().many(0, 0, 0), -1);
    }

    /** "BEST ROW, what 0: WAITED, 1 and on: STATION at place what less 1. NONE: no STATIONS, no such ones." */
    private static void best() {
        for (int n : NO_LENGTH) {
            for (int what = 0; what <= 3; what++) {
                int asked = what;
                refused("best(" + n + ", " + what + ")", x -> x.best(n, asked), -1);
            }
        }
        for (int what : new int[] {-1, 4, 5, 6, MIN, MAX}) {
            refused("best(20, " + what + ")", x -> x.best(20, what), -1);
        }
        for (int what = 0; what <= 3; what++) {
            int one = what;
            asked("best(0, " + what + ")", x -> x.best(0, one));
            asked("best(3600, " + what + ")", x -> x.best(3600, one));
        }
        for (int what = -1; what <= 2; what++) {
            Check.due("no stations: best(0, " + what + ")", new EggTrays().best(0, what), -1);
        }
        for (int n = 1; n <= 5; n++) {
            StringBuilder text = new StringBuilder();
            for (int i = 0; i < n; i++) {
                text.append("station ").append((char) ('a' + i)).append(" 1 1;");
            }
            EggTrays x = Check.told(text.toString());
            for (int what = 0; what <= 7; what++) {
                Check.due(n + " stations: best(20, " + what + ")", x.best(20, what), what > n ? -1 : what == 0 ? 0 : what - 1);
            }
        }
    }

    /** "of all rows that with the least WAITED, of several the first by STATIONS". */
    private static void bestOfAll() {
        // Each one wants another station: nobody is blocked by the row that is the other way round alone.
        String stations = "station a 1 1;station b 1 1;station c 1 1;station d 1 1;station e 1 1;";
        EggTrays x = Check.told(stations + "guest p 0 5 wants a 1;guest q 0 5 wants b 1;guest r 0 5 wants c 1;guest s 0 5 wants d 1;guest t 0 5 wants e 1;");
        Check.due("somebody waits", x.waited(20) > 0, true);
        int[] last = {0, 4, 3, 2, 1, 0};
        for (int what = 0; what < last.length; what++) {
            Check.due("the last of all rows, " + what, x.best(20, what), last[what]);
        }
        // b ahead of a is all that counts: b, a, c, d, e is the first of those.
        EggTrays y = Check.told(stations + "guest p 0 5 wants a 1;guest q 0 5 wants b 1;");
        int[] first = {0, 1, 0, 2, 3, 4};
        for (int times = 0; times < 3; times++) {
            for (int what = 0; what < first.length; what++) {
                Check.due("of several the first, " + what, y.best(20, what), first[what]);
            }
            y.change(times, 4);
        }
        int[] none = {0, 0, 1, 2, 3, 4};
        for (int what = 0; what < none.length; what++) {
            Check.due("0 seconds, " + what, x.best(0, what), none[what]);
        }
    }

    /** "TAKEN of a STATION, if it stands first (all else in order), less that, if it stands last"; MIN_VALUE: no such ones. */
    private static void seen() {
        for (int station : NO_STATION) {
            refused("seen(" + station + ", 20)", x -> x.seen(station, 20), MIN);
        }
        for (int n : NO_LENGTH) {
            refused("seen(0, " + n + ")", x -> x.seen(0, n), MIN);
        }
        for (int station = 0; station < 3; station++) {
            int one = station;
            asked("seen(" + station + ", 0)", x -> x.seen(one, 0));
            asked("seen(" + station + ", 3600)", x -> 1000 + x.seen(one, 3600));
        }
        // Who has something heaps more: first 1, last 1 and 1.
        EggTrays x = Check.told("station x 1 1;station y 1 1;guest p 0 9 wants x 9 wants y 9;law heap taken+1;");
        int[] due = {0, 1, -1, -1};
        for (int n = 0; n < due.length; n++) {
            Check.due("seen(0, " + n + ")", x.seen(0, n), due[n]);
            Check.due("seen(1, " + n + ")", x.seen(1, n), due[n]);
        }
        // Five stations of a second each: the first is taken in second 0, the last in second 4.
        EggTrays y = Check.told("station a 1 1;station b 1 1;station c 1 1;station d 1 1;station e 1 1;guest p 0 9 wants a 1 wants b 1 wants c 1 wants d 1 wants e 1;");
        for (int station = 0; station < 5; station++) {
            for (int n = 0; n <= 6; n++) {
                Check.due("seen(" + station + ", " + n + ") of five", y.seen(station, n), n >= 1 && n <= 4 ? 1 : 0);
            }
        }
        Check.due("a sixth", y.seen(5, 6), MIN);
        Check.due("no stations", new EggTrays().seen(0, 0), MIN);
    }

    /** "PLATES of a SIZE 1 .. 20, what 0: TAKEN, 1: LEFT, 2: AGAIN, 3: WAITED. NONE: no such ones." */
    private static void plates() {
        for (int size : new int[] {-1, 0, 21, MIN, MAX}) {
            refused("plates(" + size + ", 20, 0)", x -> x.plates(size, 20, 0), -1);
        }
        for (int n : NO_LENGTH) {
            refused("plates(1, " + n + ", 0)", x -> x.plates(1, n, 0), -1);
        }
        for (int what : new int[] {-1, 4, MIN, MAX}) {
            refused("plates(1, 20, " + what + ")", x -> x.plates(1, 20, what), -1);
        }
        for (int what = 0; what <= 3; what++) {
            int one = what;
            for (int size : new int[] {1, 2, 19, 20}) {
                asked("plates(" + size + ", 3600, " + what + ")", x -> x.plates(size, 3600, one));
            }
            asked("plates(20, 0, " + what + ")", x -> x.plates(20, 0, one));
            Check.due("without a text", new EggTrays().plates(1, 3600, what), 0);
            Check.due("without a text", new EggTrays().plates(20, 0, what), 0);
            Check.due("without a text", new EggTrays().plates(21, 0, what), -1);
        }
        // They take in 0, leave in 1, leaving one each, and come again in 4 if something is wanted yet.
        EggTrays x = Check.told("station a 1 4;guest p 0 5 wants a 9;guest q 0 7 wants a 9;again 3;law eats taken-1;");
        int[][] due = {{1, 1, 2, 0, 0}, {1, 2, 2, 2, 0}, {1, 4, 2, 2, 0}, {1, 5, 4, 2, 2}, {1, 6, 4, 4, 2},
            {8, 4, 16, 2, 0}, {8, 5, 18, 2, 2}, {8, 6, 18, 4, 2}, {9, 1, 18, 0, 0}, {9, 99, 18, 2, 0}, {20, 99, 18, 2, 0}};
        for (int[] d : due) {
            for (int what = 0; what < 3; what++) {
                Check.due("plates(" + d[0] + ", " + d[1] + ", " + what + ")", x.plates(d[0], d[1], what), d[what + 2]);
            }
        }
        Check.due("size as told", Check.look(x, 1, 2), 7);
    }

    /** "WORTH of going by. Integer.MIN_VALUE: no such n." */
    private static void worth() {
        for (int n : NO_LENGTH) {
            refused("worth(" + n + ")", x -> x.worth(n), MIN);
        }
        asked("worth(0)", x -> x.worth(0));
        asked("worth(3600)", x -> 1000 + x.worth(3600));
        int[] due = {0, 0, 1, 2, 3, 4, 4};
        for (String pass : new String[] {"", "pass;"}) {
            EggTrays x = Check.told(CROSSED + pass);
            for (int n = 0; n < due.length; n++) {
                Check.due("worth(" + n + ")", x.worth(n), due[n]);
            }
        }
        Check.due("without a text", new EggTrays().worth(3600), 0);
        Check.due("without a text", new EggTrays().worth(3601), MIN);
        Check.due("as much one way as the other", Check.told("station a 9 1;guest p 0 5 wants a 1;guest q 0 5 wants a 1;").worth(9), 0);
    }

    /** "FILL (p, q 0 .. 99) .. RULE .. NONE: no such ones, no pan." */
    private static void weighing() {
        for (int station : NO_PAN) {
            refused("fill(" + station + ")", x -> x.fill(station, 20, 1, 1, 0), -1);
            refused("rule(" + station + ")", x -> x.rule(station, 20, 1, 1, 0), -1);
        }
        for (int n : NO_LENGTH) {
            refused("fill n " + n, x -> x.fill(0, n, 1, 1, 0), -1);
            refused("rule n " + n, x -> x.rule(0, n, 1, 1, 0), -1);
        }
        for (int weight : NO_WEIGHT) {
            refused("fill p " + weight, x -> x.fill(0, 20, weight, 1, 0), -1);
            refused("rule p " + weight, x -> x.rule(0, 20, weight, 1, 0), -1);
            refused("fill q " + weight, x -> x.fill(0, 20, 1, weight, 0), -1);
            refused("rule q " + weight, x -> x.rule(0, 20, 1, weight, 0), -1);
        }
        for (int what : new int[] {-1, 2, MIN, MAX}) {
            refused("fill what " + what, x -> x.fill(0, 20, 1, 1, what), -1);
            refused("rule what " + what, x -> x.rule(0, 20, 1, 1, what), -1);
        }
        for (int what = 0; what <= 1; what++) {
            int one = what;
            for (int weight : new int[] {0, 1, 98, 99}) {
                asked("fill(0, 3600)", x -> x.fill(0, 3600, weight, 1, one));
                asked("fill(2, 0)", x -> x.fill(2, 0, 1, weight, one));
                asked("rule(0, 0)", x -> x.rule(0, 0, weight, 1, one));
                asked("rule(2, 3600)", x -> x.rule(2, 3600, 1, weight, one));
            }
        }
        Check.due("no stations", new EggTrays().fill(0, 0, 0, 0, 0), -1);
        Check.due("no stations", new EggTrays().rule(0, 0, 0, 0, 0), -1);
    }

    private static void fill(EggTrays x, int n, int p, int q, int from, int cost) {
        Check.due("fill(0, " + n + ", " + p + ", " + q + ", 0)", x.fill(0, n, p, q, 0), from);
        Check.due("fill(0, " + n + ", " + p + ", " + q + ", 1)", x.fill(0, n, p, q, 1), cost);
    }

    private static void rule(EggTrays x, int n, int p, int q, int portions, int cost) {
        Check.due("rule(0, " + n + ", " + p + ", " + q + ", 0)", x.rule(0, n, p, q, 0), portions);
        Check.due("rule(0, " + n + ", " + p + ", " + q + ", 1)", x.rule(0, n, p, q, 1), cost);
    }

    /** "of FROM 0 .. 59 that with which p times seconds EMPTY and q times PORTIONS in the PAN at the end is least, of several the least". */
    private static void fillEdges() {
        // Two of three are taken in second 5, the third in second 9; a pan comes 4 seconds behind its order.
        EggTrays x = Check.told("station e 1 1 pan 3 4 7;guest p 5 9 wants e 2;guest q 9 9 wants e 1;");
        fill(x, 20, 0, 0, 0, 0);
        fill(x, 5, 99, 1, 0, 3);
        // From 0: ordered in 9, due at 13: empty 9 .. 12. From 1: ordered in 5, due at 9: never empty. From 3: ordered in 0.
        fill(x, 9, 99, 0, 0, 0);
        fill(x, 10, 1, 0, 1, 0);
        fill(x, 13, 0, 1, 0, 0);
        fill(x, 14, 0, 1, 0, 3);
        fill(x, 20, 1, 0, 1, 0);
        fill(x, 20, 0, 1, 0, 3);
        // From 1 there are three at the end as from 0.
        fill(x, 20, 1, 1, 1, 3);
        fill(x, 0, 99, 99, 0, 297);
        Check.due("from as told: ordered at once", at(x, 1).station(0, 4), 4);
        // 59 of 118 are left, at which 59 alone orders.
        EggTrays most = Check.told("station e 1 1 pan 60 1 0;guest p 0 20 wants e 1;guest q 60 20 wants e 9;");
        fill(most, 1, 0, 1, 0, 59);
        fill(most, 2, 0, 1, 0, 59);
        fill(most, 3600, 1, 1, 0, 50);
    }

    private static EggTrays at(EggTrays x, int second) {
        x.seconds(second);
        return x;
    }

    /** "RULE likewise of PORTIONS in one 1 .. 60". */
    private static void ruleEdges() {
        EggTrays x = Check.told("station e 1 1 pan 9 900 0;guest p 5 9 wants e 4;");
        rule(x, 20, 0, 0, 1, 0);
        rule(x, 5, 99, 1, 1, 1);
        rule(x, 5, 99, 99, 1, 99);
        rule(x, 6, 1, 0, 5, 0);
        rule(x, 6, 0, 1, 1, 0);
        rule(x, 6, 1, 1, 1, 1);
        rule(x, 6, 2, 1, 5, 1);
        rule(x, 6, 1, 2, 1, 1);
        rule(x, 20, 1, 1, 5, 1);
        rule(x, 0, 99, 99, 1, 99);
        Check.due("portions stay", x.station(0, 2), 9);
    }

    /** "BUS (b 1 .. 6, t 0 .. 3599). Integer.MIN_VALUE: no such ones." */
    private static void bus() {
        for (int guest : NO_GUEST) {
            refused("bus(" + guest + ", 1, 0, 20)", x -> x.bus(guest, 1, 0, 20), MIN);
        }
        for (int b : new int[] {-1, 0, 7, MIN, MAX}) {
            refused("bus(0, " + b + ", 0, 20)", x -> x.bus(0, b, 0, 20), MIN);
        }
        for (int t : new int[] {-1, 3600, MIN, MAX}) {
            refused("bus(0, 1, " + t + ", 20)", x -> x.bus(0, 1, t, 20), MIN);
        }
        for (int n : NO_LENGTH) {
            refused("bus(0, 1, 0, " + n + ")", x -> x.bus(0, 1, 0, n), MIN);
        }
        for (int guest = 0; guest < 4; guest++) {
            int one = guest;
            asked("bus(" + guest + ", 1, 0, 3600)", x -> 1000 + x.bus(one, 1, 0, 3600));
            asked("bus(" + guest + ", 6, 3599, 3600)", x -> 1000 + x.bus(one, 6, 3599, 3600));
            asked("bus(" + guest + ", 6, 0, 0)", x -> x.bus(one, 6, 0, 0));
        }
        // b more wait 6, 9, .. seconds behind p and q.
        EggTrays x = Check.told(TWO);
        int waited = 0;
        for (int b = 1; b <= 6; b++) {
            waited += 3 + 3 * b;
            Check.due("bus of " + b, x.bus(1, b, 0, 60), waited);
        }
        // In second 3599 all but the first wait.
        for (int b = 1; b <= 6; b++) {
            Check.due("bus of " + b + " at 3599", x.bus(0, b, 3599, 3600), b - 1);
            Check.due("bus of " + b + " behind the run", x.bus(0, b, 3599, 3599), 0);
        }
        Check.due("guests stay", x.all(1), 2);
        // "numbered behind all": p has the last portion, so that the one more misses it, is blocked in second 1 and takes b.
        EggTrays y = Check.told("station e 2 1 pan 1 900 0;station b 3 1;guest p 0 9 wants e 1;guest q 100 9 wants e 1 wants b 1;");
        Check.due("behind all", y.bus(1, 1, 0, 50), 1);
        Check.due("no guests", new EggTrays().bus(0, 1, 0, 0), MIN);
    }

    /** "(j 0 .. 600)", "the seed, 0 .. 2147483647", n: NONE: no such ones. */
    private static void chanceRefused() {
        for (int seed : new int[] {-1, MIN}) {
            refused("chance(" + seed + ", 0, 20, 0)", x -> x.chance(seed, 0, 20, 0), -1);
        }
        for (int j : new int[] {-1, 601, MIN, MAX}) {
            refused("chance(0, " + j + ", 20, 0)", x -> x.chance(0, j, 20, 0), -1);
        }
        for (int n : NO_LENGTH) {
            refused("chance(0, 0, " + n + ", 0)", x -> x.chance(0, 0, n, 0), -1);
        }
        for (int seed : new int[] {0, 1, MAX - 1, MAX}) {
            for (int j : new int[] {0, 1, 599, 600}) {
                asked("chance(" + seed + ", " + j + ")", x -> x.chance(seed, j, 3600, 3));
            }
            asked("chance(" + seed + "), 0 seconds", x -> x.chance(seed, 600, 0, 0));
        }
        Check.due("without a text", new EggTrays().chance(MAX, 600, 3600, 0), 0);
        Check.due("bound", Check.told(TWO).chance(0, 0, 20, 2), 10);
        Check.due("not above", Check.told(TWO).chance(0, 0, 20, 3), 0);
        Check.due("bound 99999", Check.told(TWO).chance(0, 0, 20, 99999), 0);
    }

    /** In how many of ten draws more is waited than a bound, where p and q come at 0 and 2 or later to a station of 3 seconds. */
    private static int drawn(int seed, int j, int bound) {
        long last = seed;
        int above = 0;
        for (int draw = 0; draw < 10; draw++) {
            last = Math.floorMod(last * 1103515245L + 12345L, 1L << 31);
            int p = (int) (last / 65536) % (j + 1);
            last = Math.floorMod(last * 1103515245L + 12345L, 1L << 31);
            int q = 2 + (int) (last / 65536) % (j + 1);
            above += Math.max(0, 3 - Math.abs(p - q)) > bound ? 1 : 0;
        }
        return above;
    }

    /** "each GUEST comes a number modulo (j and 1) seconds later (3599 at most), by numbers". */
    private static void chance() {
        EggTrays x = Check.told("station a 3 1;guest p 0 5 wants a 2;guest q 2 5 wants a 1;");
        for (int seed : new int[] {0, 1, 2, 77, 4711, 1 << 30, MAX - 1, MAX}) {
            for (int j : new int[] {0, 1, 2, 3, 4, 599, 600}) {
                for (int bound = 0; bound <= 3; bound++) {
                    Check.due("chance(" + seed + ", " + j + ", 900, " + bound + ")", x.chance(seed, j, 900, bound), drawn(seed, j, bound));
                }
            }
        }
        // By 1 and on both come at 3599, where one waits; with a second more than 3600 they would not come at all.
        for (int comes = 3597; comes <= 3599; comes++) {
            EggTrays late = Check.told("station a 1 1;guest p " + comes + " 5 wants a 2;guest q " + comes + " 5 wants a 1;");
            for (int seed : new int[] {0, 5, 99, MAX}) {
                for (int j : new int[] {0, 1, 2, 3, 600}) {
                    long last = seed;
                    int together = 0;
                    for (int draw = 0; draw < 10; draw++) {
                        last = Math.floorMod(last * 1103515245L + 12345L, 1L << 31);
                        int p = Math.min(3599, comes + (int) (last / 65536) % (j + 1));
                        last = Math.floorMod(last * 1103515245L + 12345L, 1L << 31);
                        int q = Math.min(3599, comes + (int) (last / 65536) % (j + 1));
                        together += p == q ? 1 : 0;
                    }
                    Check.due("at " + comes + ", chance(" + seed + ", " + j + ")", late.chance(seed, j, 3600, 0), together);
                }
            }
        }
    }

    public static void main(String[] args) {
        waited();
        byTheRow();
        slow();
        many();
        best();
        bestOfAll();
        seen();
        plates();
        worth();
        weighing();
        fillEdges();
        ruleEdges();
        bus();
        chanceRefused();
        chance();
        Check.end();
    }
}
