import java.nio.charset.StandardCharsets;
import java.util.Random;

/** Made-up texts and runs of calls: EggTrays has to answer as the plain Model does. */
public final class RandomRunsTest {
    private static final String[] NAMES = {"want", "room", "here", "age", "line", "late", "size", "taken"};
    private static final String[] SIGNS = {"+", "-", "*", "/", "<", "<=", "=", "<>", ">=", ">", " and ", " or "};
    private static final String[] KINDS = {"heap", "leave", "eats"};
    private static final String[] PIECES = {"station", "pan", "cold", "guest", "wants", "pass", "again", "close", "law",
        "may", "heap", "leave", "eats", "or", "and", "not", "want", "room", ";", ";", "(", ")", "<", ">", "=", "+", "-", "*",
        "/", "0", "1", "9", "60", "10000", "99999999999999999999", "a", "b", "abcdef", "abcdefg", "stations", "A", "#",
        "\n", " ", "\t", "\u00e9", "<=", "<>", ">="};

    private final Random random;
    private EggTrays x;
    private Model m;
    private String text = "";
    private int run;

    private RandomRunsTest(long seed) {
        random = new Random(seed);
    }

    private int upTo(int most) {
        return random.nextInt(most + 1);
    }

    private int from(int least, int most) {
        return least + random.nextInt(most - least + 1);
    }

    private boolean one(int of) {
        return random.nextInt(of) == 0;
    }

    private String expression(int depth) {
        if (depth == 0 || one(4)) {
            return one(3) ? "" + (one(5) ? upTo(9999) : upTo(9)) : NAMES[random.nextInt(NAMES.length)];
        }
        if (one(8)) {
            return "(not " + expression(depth - 1) + ")";
        }
        String e = expression(depth - 1) + SIGNS[random.nextInt(SIGNS.length)] + expression(depth - 1);
        return one(8) && depth > 1 ? e : "(" + e + ")";
    }

    private String law(String kind) {
        if (one(3)) {
            switch (kind) {
                case "heap": return one(2) ? "want/2+1" : one(2) ? "want+age/4" : "want-late/9";
                case "leave": return one(2) ? "line>3" : one(2) ? "late>want*5 and not here=999" : "age<4";
                default: return one(2) ? "taken-1" : one(2) ? "taken/2+line" : "size-room-late/7";
            }
        }
        return expression(one(3) ? 3 : 2);
    }

    private String name(int i) {
        return "" + (char) ('a' + i) + (i % 2 == 0 ? "" : "x");
    }

    private String madeUp() {
        StringBuilder s = new StringBuilder();
        int stations = from(one(6) ? 0 : 1, one(3) ? 5 : 4);
        int guests = one(8) ? upTo(2) : from(2, 9);
        int span = one(4) ? 3599 : one(2) ? 200 : 25;
        int slow = one(4) ? 240 : 9;
        for (int i = 0; i < stations; i++) {
            s.append("station ").append(name(i)).append(' ').append(from(1, slow)).append(' ').append(one(3) ? from(1, 4) : 1);
            if (!one(3)) {
                s.append(" pan ").append(one(4) ? from(1, 60) : from(1, 9)).append(' ').append(one(4) ? from(1, 900) : from(1, 30))
                        .append(' ').append(one(4) ? upTo(59) : upTo(5));
            }
            if (one(2)) {
                s.append(" cold ").append(one(3) ? from(1, 3600) : from(1, 20));
            }
            s.append(";");
        }
        for (int i = 0; i < guests; i++) {
            s.append("guest ").append(name(i)).append(' ').append(upTo(span)).append(' ').append(one(3) ? from(1, 20) : from(1, 6));
            int skip = upTo(stations);
            for (int k = 0; k < stations; k++) {
                if (k != skip && !one(4)) {
                    s.append(" wants ").append(name((k + i) % stations)).append(' ').append(from(1, one(3) ? 9 : 3));
                }
            }
            s.append(one(9) ? " ;\n" : ";");
        }
        if (one(2)) {
            s.append("pass;");
        }
        if (one(2)) {
            s.append("again ").append(one(4) ? from(1, 1800) : from(1, 20)).append(';');
        }
        if (one(4)) {
            s.append("close ").append(one(3) ? upTo(3600) : upTo(50)).append(';');
        }
        for (String kind : KINDS) {
            if (one(3)) {
                s.append("law ").append(kind).append(' ').append(law(kind)).append(';');
            }
        }
        int mays = one(2) ? upTo(4) : 0;
        for (int i = 0; i < mays; i++) {
            String kind = KINDS[random.nextInt(3)];
            s.append("may ").append(kind).append(' ').append(name(i)).append(' ').append(law(kind)).append(';');
        }
        return s.toString();
    }

    private String spoilt(String good) {
        StringBuilder s = new StringBuilder(good);
        int times = from(1, 3);
        for (int i = 0; i < times && s.length() > 0; i++) {
            int at = random.nextInt(s.length());
            String piece = PIECES[random.nextInt(PIECES.length)];
            if (one(3)) {
                s.deleteCharAt(at);
            } else if (one(2)) {
                s.insert(at, one(2) ? " " + piece + " " : piece);
            } else {
                s.setCharAt(at, piece.charAt(0));
            }
        }
        return s.toString();
    }

    private void due(String call, long got, long want) {
        Check.due("run " + run + " " + call + " of [" + text + "]", got, want);
    }

    private void tellText(String t) {
        tellText(t, false);
    }

    private void tellText(String t, boolean whole) {
        text = t;
        byte[] bytes = t.getBytes(StandardCharsets.ISO_8859_1);
        for (int at = 0; at < bytes.length; at += 20) {
            int[] n = Check.numbers(bytes, at);
            due("feed", x.feed(n[0], n[1], n[2], n[3], n[4]), m.feed(n[0], n[1], n[2], n[3], n[4]));
        }
        int n = bytes.length > 800 ? 800 : whole ? bytes.length : one(40) ? bytes.length + 30 : one(60) ? -1 : bytes.length;
        due("text(" + n + ")", x.text(n), m.text(n));
        due("fault(0)", x.fault(0), m.fault(0));
        due("fault(1)", x.fault(1), m.fault(1));
    }

    private void compareState() {
        for (int g = -1; g <= m.spec.guests.size(); g++) {
            for (int w = -1; w <= 11; w++) {
                due("look(" + g + ", " + w + ")", Check.look(x, g, w), Check.look(m, g, w));
            }
        }
        for (int s = -1; s <= m.spec.stations.size(); s++) {
            for (int w = -1; w <= 10; w++) {
                due("station(" + s + ", " + w + ")", x.station(s, w), m.station(s, w));
            }
            due("row(" + s + ")", x.row(s), m.row(s));
        }
        for (int k = -1; k <= 9; k++) {
            due("line(" + k + ")", x.line(k), m.line(k));
        }
        for (int w = -1; w <= 13; w++) {
            due("all(" + w + ")", x.all(w), m.all(w));
        }
    }

    private int length() {
        return one(12) ? (one(2) ? 3601 : -1) : one(8) ? upTo(3600) : upTo(120);
    }

    private int anyStation() {
        return one(10) ? (one(2) ? -1 : 5) : upTo(Math.max(0, m.spec.stations.size() - 1));
    }

    private int anyGuest() {
        return one(10) ? (one(2) ? -1 : 9) : upTo(Math.max(0, m.spec.guests.size() - 1));
    }

    private int weight() {
        return one(12) ? (one(2) ? 100 : -1) : upTo(9);
    }

    private void ask() {
        int s = anyStation();
        int g = anyGuest();
        int n = length();
        switch (random.nextInt(12)) {
            case 0:
                due("waited(" + n + ")", x.waited(n), m.waited(n));
                break;
            case 1:
                due("slow(" + g + ", " + n + ")", x.slow(g, n), m.slow(g, n));
                break;
            case 2: {
                int b = one(12) ? (one(2) ? -1 : 100000) : upTo(200);
                due("many(" + s + ", " + n + ", " + b + ")", x.many(s, n, b), m.many(s, n, b));
                break;
            }
            case 3: {
                int what = from(-1, 6);
                due("best(" + n + ", " + what + ")", x.best(n, what), m.best(n, what));
                break;
            }
            case 4:
                due("seen(" + s + ", " + n + ")", x.seen(s, n), m.seen(s, n));
                break;
            case 5: {
                int size = upTo(21);
                int what = from(-1, 4);
                due("plates(" + size + ", " + n + ", " + what + ")", x.plates(size, n, what), m.plates(size, n, what));
                break;
            }
            case 6:
                due("worth(" + n + ")", x.worth(n), m.worth(n));
                break;
            case 7: {
                int p = weight();
                int q = weight();
                int what = one(9) ? 2 : upTo(1);
                due("fill(" + s + ", " + n + ", " + p + ", " + q + ", " + what + ")", x.fill(s, n, p, q, what), m.fill(s, n, p, q, what));
                break;
            }
            case 8: {
                int p = weight();
                int q = weight();
                int what = one(9) ? -1 : upTo(1);
                due("rule(" + s + ", " + n + ", " + p + ", " + q + ", " + what + ")", x.rule(s, n, p, q, what), m.rule(s, n, p, q, what));
                break;
            }
            case 9: {
                int b = upTo(7);
                int t = one(9) ? (one(2) ? 3600 : -1) : upTo(one(4) ? 3599 : 60);
                due("bus(" + g + ", " + b + ", " + t + ", " + n + ")", x.bus(g, b, t, n), m.bus(g, b, t, n));
                break;
            }
            case 10: {
                int seed = random.nextInt() & (one(9) ? -1 : Integer.MAX_VALUE);
                int j = one(9) ? (one(2) ? 601 : -1) : upTo(one(3) ? 600 : 30);
                int b = one(12) ? (one(2) ? -1 : 100000) : upTo(200);
                due("chance(" + seed + ", " + j + ", " + n + ", " + b + ")", x.chance(seed, j, n, b), m.chance(seed, j, n, b));
                break;
            }
            default: {
                int k = from(-1, 3);
                int[] v = new int[4];
                for (int i = 0; i < 4; i++) {
                    v[i] = one(20) ? (one(2) ? -1 : 10000) : upTo(one(2) ? 9999 : 9);
                }
                due("law(" + k + ", " + v[0] + ", " + v[1] + ", " + v[2] + ", " + v[3] + ")",
                        x.law(k, v[0], v[1], v[2], v[3]), m.law(k, v[0], v[1], v[2], v[3]));
                break;
            }
        }
    }

    private void act() {
        int s = anyStation();
        int g = anyGuest();
        switch (random.nextInt(12)) {
            case 0:
            case 1:
            case 2: {
                int n = one(15) ? (one(2) ? 901 : -1) : one(4) ? upTo(900) : upTo(12);
                due("seconds(" + n + ")", x.seconds(n), m.seconds(n));
                break;
            }
            case 3:
                due("put(" + s + ")", x.put(s), m.put(s));
                break;
            case 4: {
                int other = anyStation();
                Check.due("run " + run + " change", x.change(s, other), m.change(s, other));
                break;
            }
            case 5:
                Check.due("run " + run + " send", x.send(g), m.send(g));
                break;
            case 6:
            case 7:
                due("undo()", x.undo(), m.undo());
                break;
            case 8:
                due("keep()", x.keep(), m.keep());
                break;
            case 9:
                due("back()", x.back(), m.back());
                break;
            case 10: {
                int what = from(-1, 3);
                int letters = one(3) ? random.nextInt() : Model.pack(name(upTo(8)));
                due("named(" + what + ", " + letters + ")", x.named(what, letters), m.named(what, letters));
                break;
            }
            default:
                if (one(3)) {
                    for (int i = 0; i < 25; i++) {
                        due("put(" + s + ")", x.put(s), m.put(s));
                    }
                }
                break;
        }
        compareState();
    }

    /** A count that is so in the run at a second, now and then one that isn't. */
    private void countSomething() {
        int s = anyStation();
        switch (random.nextInt(6)) {
            case 0: {
                int c = from(-1, m.counts.size());
                due("strike(" + c + ")", x.strike(c), m.strike(c));
                break;
            }
            case 1: {
                int n = from(-2, m.counts.size() + 1);
                Check.due("run " + run + " known(" + n + ")", x.known(n), m.known(n));
                break;
            }
            default: {
                int t = one(12) ? (one(2) ? 3600 : -1) : one(5) ? upTo(3599) : upTo(60);
                int lo = one(12) ? (one(2) ? 100 : -1) : upTo(3);
                int hi = one(12) ? lo - 1 : one(12) ? 100 : upTo(70);
                due("count(" + s + ", " + t + ", " + lo + ", " + hi + ")", x.count(s, t, lo, hi), m.count(s, t, lo, hi));
                break;
            }
        }
        if (one(2)) {
            due("fits()", x.fits(), m.fits());
        }
    }

    private void oneRun(int number) {
        run = number;
        x = new EggTrays();
        m = new Model();
        String good = madeUp();
        if (one(3)) {
            tellText(spoilt(good));
        }
        tellText(good);
        compareState();
        int calls = from(5, 25);
        for (int i = 0; i < calls && Check.good(); i++) {
            int kind = random.nextInt(8);
            if (kind < 4) {
                act();
            } else if (kind < 6) {
                ask();
            } else if (kind < 7) {
                countSomething();
            } else if (one(3)) {
                tellText(one(3) ? madeUp() : spoilt(good));
                compareState();
            }
        }
        compareState();
    }

    /** Rows count most where many guests want different things of many stations. */
    private void rowRun(int number) {
        run = number;
        x = new EggTrays();
        m = new Model();
        StringBuilder s = new StringBuilder();
        int stations = from(3, 5);
        for (int i = 0; i < stations; i++) {
            s.append("station ").append(name(i)).append(' ').append(from(1, 9)).append(" 1;");
        }
        for (int i = 0; i < 9; i++) {
            s.append("guest ").append(name(i)).append(' ').append(upTo(20)).append(" 9 wants ").append(name(upTo(stations - 1))).append(" 1;");
        }
        tellText(s.toString(), true);
        int n = from(20, 90);
        for (int what = 0; what <= stations; what++) {
            due("best(" + n + ", " + what + ")", x.best(n, what), m.best(n, what));
        }
    }

    /** Counts as they are by one of the laws, so that some fit and some don't. */
    private void countRun(int number) {
        run = number;
        x = new EggTrays();
        m = new Model();
        tellText("station a " + from(1, 5) + " 1 pan 9 " + from(3, 30) + " " + upTo(4) + ";station b 2 1 pan 6 9 1;"
                + "guest p 0 9 wants a 4 wants b 3;guest q " + upTo(9) + " 9 wants a 3;guest r " + upTo(30) + " 4 wants b 4 wants a 1;again 6;pass;"
                + "may heap half want/2+1;may heap more want+1;may leave gone 1;may heap early here>2;", true);
        for (int i = 0; i < 12; i++) {
            int s = upTo(1);
            int t = upTo(60);
            Model.Spec spec = m.spec.copy();
            int may = upTo(4);
            if (may < 4) {
                spec.law[spec.mayKinds.get(may)] = spec.mayTrees.get(may);
            }
            int portions = m.run(spec, t + 1).ps.get(s).portions;
            int lo = Math.max(0, portions - upTo(2));
            int hi = Math.min(99, portions + upTo(2));
            due("count(" + s + ", " + t + ", " + lo + ", " + hi + ")", x.count(s, t, lo, hi), m.count(s, t, lo, hi));
            if (one(3)) {
                int c = upTo(m.counts.size() - 1);
                due("strike(" + c + ")", x.strike(c), m.strike(c));
            }
            int n = from(-1, m.counts.size());
            Check.due("run " + run + " known(" + n + ")", x.known(n), m.known(n));
            due("fits() known by " + n, x.fits(), m.fits());
        }
    }

    private void faultRun(int number) {
        run = number;
        x = new EggTrays();
        m = new Model();
        for (int i = 0; i < 20; i++) {
            StringBuilder s = new StringBuilder();
            if (one(2)) {
                s.append(spoilt(madeUp()));
            } else if (one(2)) {
                s.append("law heap ").append(expression(4)).append(";law eats ").append(expression(5)).append(";");
                s = one(2) ? new StringBuilder(spoilt(s.toString())) : s;
            } else {
                int pieces = from(1, 20);
                for (int k = 0; k < pieces; k++) {
                    s.append(PIECES[random.nextInt(PIECES.length)]).append(one(4) ? "" : " ");
                }
            }
            tellText(s.toString());
            int v = upTo(9999);
            for (int kind = 0; kind < 3; kind++) {
                due("law", x.law(kind, v, 7, 3, 2), m.law(kind, v, 7, 3, 2));
            }
        }
    }

    public static void main(String[] args) {
        int runs = args.length > 0 ? Integer.parseInt(args[0]) : 1500;
        long seed = args.length > 1 ? Long.parseLong(args[1]) : 20261118L;
        RandomRunsTest test = new RandomRunsTest(seed);
        for (int i = 0; i < runs && Check.good(); i++) {
            test.oneRun(i);
            test.faultRun(i);
            if (i % 4 == 0) {
                test.rowRun(i);
                test.countRun(i);
            }
        }
        Check.end();
    }
}
