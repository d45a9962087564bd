import java.util.ArrayList;
import java.util.Arrays;
import java.util.HashMap;
import java.util.HashSet;
import java.util.List;
import java.util.Map;
import java.util.NoSuchElementException;
import java.util.Set;

/**
 * A second, plain writing of the document for the tests: every second is played by itself, an E is a tree,
 * a changed plan is a new one. It shares no code with EggTrays.
 */
final class Model {
    static final Set<String> LANGUAGE = new HashSet<>(Arrays.asList(
            ("station pan cold guest wants pass again close law may heap leave eats or and not "
                    + "want room here age line late size taken").split(" ")));
    static final List<String> NAMES = Arrays.asList("want room here age line late size taken".split(" "));
    static final List<String> KINDS = Arrays.asList("heap", "leave", "eats");

    static final class Fault extends RuntimeException {
        final int kind;
        final int place;
        Fault(int kind, int place) {
            this.kind = kind;
            this.place = place;
        }
    }

    static final class Failed extends RuntimeException {
    }

    interface Tree {
        long of(Map<String, Long> names);
    }

    static long checked(java.math.BigInteger v) {
        if (v.abs().compareTo(java.math.BigInteger.valueOf(1000000000000L)) > 0) {
            throw new Failed();
        }
        return v.longValueExact();
    }

    static Tree binary(String sign, Tree x, Tree y) {
        return names -> {
            long a = x.of(names);
            long b = y.of(names);
            java.math.BigInteger p = java.math.BigInteger.valueOf(a);
            java.math.BigInteger q = java.math.BigInteger.valueOf(b);
            switch (sign) {
                case "or": return a != 0 || b != 0 ? 1 : 0;
                case "and": return a != 0 && b != 0 ? 1 : 0;
                case "<": return a < b ? 1 : 0;
                case "<=": return a <= b ? 1 : 0;
                case "=": return a == b ? 1 : 0;
                case "<>": return a != b ? 1 : 0;
                case ">=": return a >= b ? 1 : 0;
                case ">": return a > b ? 1 : 0;
                case "+": return checked(p.add(q));
                case "-": return checked(p.subtract(q));
                case "*": return checked(p.multiply(q));
                default:
                    if (b == 0) {
                        throw new Failed();
                    }
                    return checked(p.divide(q));
            }
        };
    }

    static final class St implements Cloneable {
        String name;
        int secs, places, portions, lag, from, cold;
        boolean pan;
        St copy() {
            St s = new St();
            s.name = name; s.secs = secs; s.places = places; s.portions = portions;
            s.lag = lag; s.from = from; s.cold = cold; s.pan = pan;
            return s;
        }
    }

    static final class Gu {
        String name;
        int comes, size;
        boolean never;
        Map<Integer, Integer> wants = new HashMap<>();
        Gu copy() {
            Gu g = new Gu();
            g.name = name; g.comes = comes; g.size = size; g.never = never;
            g.wants.putAll(wants);
            return g;
        }
    }

    static final class Spec {
        List<St> stations = new ArrayList<>();
        List<Gu> guests = new ArrayList<>();
        boolean pass;
        Integer again, close;
        Tree[] law = new Tree[3];
        List<String> mayNames = new ArrayList<>();
        List<Integer> mayKinds = new ArrayList<>();
        List<Tree> mayTrees = new ArrayList<>();
        int knots, lines;
        Spec copy() {
            Spec s = new Spec();
            for (St t : stations) s.stations.add(t.copy());
            for (Gu g : guests) s.guests.add(g.copy());
            s.pass = pass; s.again = again; s.close = close; s.law = law.clone();
            s.mayNames = mayNames; s.mayKinds = mayKinds; s.mayTrees = mayTrees;
            s.knots = knots; s.lines = lines;
            return s;
        }
    }

    /** Recursive descent over the grammar as it is written down. */
    static final class Parser {
        final String text;
        final List<String> tokens = new ArrayList<>();
        final List<Integer> places = new ArrayList<>();
        int i = 0;
        int open = 0;
        Spec spec = new Spec();

        Parser(String text) {
            this.text = text;
            int k = 0;
            while (k < text.length()) {
                char c = text.charAt(k);
                if (c == 10 || c == 32) {
                    k++;
                    continue;
                }
                int e = k + 1;
                String token;
                if (c >= 'a' && c <= 'z') {
                    while (e < text.length() && text.charAt(e) >= 'a' && text.charAt(e) <= 'z') e++;
                    token = text.substring(k, e);
                    if (token.length() > 6 && !token.equals("station")) token = "?";
                } else if (c >= '0' && c <= '9') {
                    while (e < text.length() && text.charAt(e) >= '0' && text.charAt(e) <= '9') e++;
                    token = text.substring(k, e);
                } else {
                    if (e < text.length()) {
                        String two = text.substring(k, k + 2);
                        if (two.equals("<=") || two.equals("<>") || two.equals(">=")) e++;
                    }
                    token = text.substring(k, e);
                    if (e == k + 1 && ";()+-*/<>=".indexOf(c) < 0) token = "?";
                }
                tokens.add(token);
                places.add(k);
                k = e;
            }
        }

        String tok() { return i < tokens.size() ? tokens.get(i) : ""; }
        int at() { return i < tokens.size() ? places.get(i) : text.length(); }
        Fault fault(int kind) { return new Fault(kind, at()); }
        boolean word() { return !tok().isEmpty() && Character.isLetter(tok().charAt(0)); }
        boolean digits() { return !tok().isEmpty() && Character.isDigit(tok().charAt(0)); }

        void eat(String t) {
            if (!tok().equals(t)) throw fault(1);
            i++;
        }

        int number(int lo, int hi) {
            if (!digits()) throw fault(1);
            java.math.BigInteger v = new java.math.BigInteger(tok());
            if (v.compareTo(java.math.BigInteger.valueOf(lo)) < 0 || v.compareTo(java.math.BigInteger.valueOf(hi)) > 0) {
                throw fault(2);
            }
            i++;
            return v.intValue();
        }

        String name() {
            if (!word() || LANGUAGE.contains(tok())) throw fault(1);
            return tok();
        }

        int kind() {
            int k = KINDS.indexOf(tok());
            if (k < 0) throw fault(1);
            return k;
        }

        Spec parse() {
            while (i < tokens.size()) {
                line();
                eat(";");
                spec.lines++;
            }
            return spec;
        }

        void line() {
            switch (tok()) {
                case "station": {
                    if (spec.stations.size() == 5) throw fault(2);
                    i++;
                    St s = new St();
                    s.name = name();
                    for (St o : spec.stations) if (o.name.equals(s.name)) throw fault(3);
                    i++;
                    s.secs = number(1, 240);
                    s.places = number(1, 4);
                    if (tok().equals("pan")) {
                        i++;
                        s.pan = true;
                        s.portions = number(1, 60);
                        s.lag = number(1, 900);
                        s.from = number(0, 59);
                    }
                    s.cold = Integer.MAX_VALUE;
                    if (tok().equals("cold")) {
                        i++;
                        s.cold = number(1, 3600);
                    }
                    spec.stations.add(s);
                    return;
                }
                case "guest": {
                    if (spec.guests.size() == 9) throw fault(2);
                    i++;
                    Gu g = new Gu();
                    g.name = name();
                    for (Gu o : spec.guests) if (o.name.equals(g.name)) throw fault(3);
                    i++;
                    g.comes = number(0, 3599);
                    g.size = number(1, 20);
                    while (tok().equals("wants")) {
                        i++;
                        String w = name();
                        int s = -1;
                        for (int k = 0; k < spec.stations.size(); k++) if (spec.stations.get(k).name.equals(w)) s = k;
                        if (s >= 0 && g.wants.containsKey(s)) throw fault(3);
                        if (s < 0) throw fault(4);
                        i++;
                        g.wants.put(s, number(1, 9));
                    }
                    spec.guests.add(g);
                    return;
                }
                case "pass":
                    if (spec.pass) throw fault(3);
                    spec.pass = true;
                    i++;
                    return;
                case "again":
                    if (spec.again != null) throw fault(3);
                    i++;
                    spec.again = number(1, 1800);
                    return;
                case "close":
                    if (spec.close != null) throw fault(3);
                    i++;
                    spec.close = number(0, 3600);
                    return;
                case "law": {
                    i++;
                    int k = kind();
                    if (spec.law[k] != null) throw fault(3);
                    i++;
                    spec.law[k] = e();
                    return;
                }
                case "may": {
                    if (spec.mayNames.size() == 4) throw fault(2);
                    i++;
                    int k = kind();
                    i++;
                    String w = name();
                    if (spec.mayNames.contains(w)) throw fault(3);
                    i++;
                    Tree t = e();
                    spec.mayNames.add(w);
                    spec.mayKinds.add(k);
                    spec.mayTrees.add(t);
                    return;
                }
                default:
                    throw fault(1);
            }
        }

        void knot() {
            if (spec.knots == 64) throw fault(2);
            spec.knots++;
        }

        Tree e() {
            Tree x = a();
            while (tok().equals("or")) { knot(); i++; x = binary("or", x, a()); }
            return x;
        }

        Tree a() {
            Tree x = b();
            while (tok().equals("and")) { knot(); i++; x = binary("and", x, b()); }
            return x;
        }

        Tree b() {
            if (tok().equals("not")) {
                knot();
                i++;
                Tree x = b();
                return names -> x.of(names) == 0 ? 1 : 0;
            }
            return c();
        }

        Tree c() {
            Tree x = s();
            if (Arrays.asList("<", "<=", "=", "<>", ">=", ">").contains(tok())) {
                String sign = tok();
                knot();
                i++;
                x = binary(sign, x, s());
            }
            return x;
        }

        Tree s() {
            Tree x = t();
            while (tok().equals("+") || tok().equals("-")) { String g = tok(); knot(); i++; x = binary(g, x, t()); }
            return x;
        }

        Tree t() {
            Tree x = p();
            while (tok().equals("*") || tok().equals("/")) { String g = tok(); knot(); i++; x = binary(g, x, p()); }
            return x;
        }

        Tree p() {
            if (tok().equals("(")) {
                if (open == 8) throw fault(2);
                open++;
                i++;
                Tree x = e();
                eat(")");
                open--;
                return x;
            }
            if (digits()) {
                if (spec.knots == 64) throw fault(2);
                long v = number(0, 9999);
                spec.knots++;
                return names -> v;
            }
            String n = tok();
            if (!NAMES.contains(n)) throw fault(1);
            knot();
            i++;
            return names -> names.get(n);
        }
    }

    static final class Gs {
        int state, pos = -1, plate, takes, waited, taken, eaten, left, missed, came, backAt = -1;
        boolean waitsHere;
        int[] want = new int[5];
    }

    static final class Ps {
        int portions, age, due = -1, taken, cold, empty, filled;
    }

    /** The table as it is; a copy is made by hand. */
    static final class Sim {
        Spec spec;
        int t;
        List<Integer> row = new ArrayList<>();
        List<Gs> gs = new ArrayList<>();
        List<Ps> ps = new ArrayList<>();
        List<Integer> line = new ArrayList<>();

        Sim(Spec spec, List<Integer> row) {
            this.spec = spec;
            this.row.addAll(row);
            for (St s : spec.stations) {
                Ps p = new Ps();
                p.portions = s.portions;
                ps.add(p);
            }
            for (Gu g : spec.guests) {
                Gs x = new Gs();
                for (Map.Entry<Integer, Integer> w : g.wants.entrySet()) x.want[w.getKey()] = w.getValue();
                gs.add(x);
            }
        }

        Sim copy() {
            Sim s = new Sim(spec, row);
            s.t = t;
            s.line.addAll(line);
            for (int i = 0; i < gs.size(); i++) {
                Gs a = gs.get(i), b = s.gs.get(i);
                b.state = a.state; b.pos = a.pos; b.plate = a.plate; b.takes = a.takes; b.waited = a.waited;
                b.taken = a.taken; b.eaten = a.eaten; b.left = a.left; b.missed = a.missed; b.came = a.came;
                b.backAt = a.backAt; b.waitsHere = a.waitsHere; b.want = a.want.clone();
            }
            for (int i = 0; i < ps.size(); i++) {
                Ps a = ps.get(i), b = s.ps.get(i);
                b.portions = a.portions; b.age = a.age; b.due = a.due; b.taken = a.taken; b.cold = a.cold;
                b.empty = a.empty; b.filled = a.filled;
            }
            return s;
        }

        int room(int g) { return spec.guests.get(g).size - gs.get(g).plate; }

        Long ask(int kind, int g, int station) {
            if (spec.law[kind] == null) return null;
            Map<String, Long> n = new HashMap<>();
            Gs x = gs.get(g);
            boolean eats = kind == 2;
            boolean pan = !eats && spec.stations.get(station).pan;
            n.put("want", (long) (eats ? Arrays.stream(x.want).sum() : x.want[station]));
            n.put("room", (long) room(g));
            n.put("here", (long) (eats ? 0 : pan ? ps.get(station).portions : 999));
            n.put("age", (long) (pan ? ps.get(station).age : 0));
            n.put("line", (long) line.size());
            n.put("late", (long) (t - spec.guests.get(g).comes));
            n.put("size", (long) spec.guests.get(g).size);
            n.put("taken", (long) x.plate);
            try {
                return spec.law[kind].of(n);
            } catch (Failed f) {
                return null;
            }
        }

        void second() {
            for (int s = 0; s < ps.size(); s++) {
                Ps p = ps.get(s);
                if (p.due >= 0 && p.due <= t) {
                    p.portions += spec.stations.get(s).portions;
                    p.age = 0;
                    p.due = -1;
                    p.filled++;
                }
            }
            for (int g = 0; g < gs.size(); g++) {
                Gs x = gs.get(g);
                Gu told = spec.guests.get(g);
                if (x.state == 0 && !told.never && told.comes == t || x.state == 2 && x.backAt == t) {
                    x.state = 1;
                    x.came++;
                    x.pos = -1;
                    x.plate = 0;
                    x.waitsHere = false;
                    line.add(g);
                }
            }
            for (int g : new ArrayList<>(line)) {
                if (gs.get(g).takes == 0) act(g);
            }
            for (int g : line) {
                if (gs.get(g).takes > 0) gs.get(g).takes--;
            }
            int close = spec.close == null ? 3600 : spec.close;
            for (int s = 0; s < ps.size(); s++) {
                St st = spec.stations.get(s);
                Ps p = ps.get(s);
                if (!st.pan) continue;
                if (p.portions <= st.from && p.due < 0 && t < close) p.due = t + st.lag;
                p.age++;
                if (p.portions == 0) p.empty++;
            }
            t++;
        }

        void act(int g) {
            Gs x = gs.get(g);
            int end = row.size();
            int next = end;
            if (room(g) > 0) {
                for (int place = end - 1; place >= 0; place--) {
                    boolean may = place > x.pos || place == x.pos && x.waitsHere;
                    if (may && x.want[row.get(place)] > 0) next = place;
                }
            }
            int k = line.indexOf(g);
            if (!spec.pass && k > 0) {
                int ahead = gs.get(line.get(k - 1)).pos;
                if (next == end || ahead < next) {
                    if (ahead > x.pos) x.pos = ahead;
                    x.waited++;
                    return;
                }
            }
            if (next == end) {
                leave(g);
                return;
            }
            x.pos = next;
            x.waitsHere = false;
            int s = row.get(next);
            St st = spec.stations.get(s);
            Ps p = ps.get(s);
            if (st.pan && p.portions == 0) {
                x.want[s] = 0;
                x.missed++;
                return;
            }
            int takers = 0;
            for (int o : line) if (gs.get(o).takes > 0 && gs.get(o).pos == next) takers++;
            if (takers < st.places) {
                Long h = ask(0, g, s);
                long heap = h == null ? x.want[s] : h;
                heap = Math.max(0, Math.min(heap, room(g)));
                if (st.pan) heap = Math.min(heap, p.portions);
                int n = (int) heap;
                if (st.pan) p.portions -= n;
                p.taken += n;
                if (st.pan && p.age >= st.cold) p.cold += n;
                x.plate += n;
                x.taken += n;
                x.want[s] = Math.max(0, x.want[s] - n);
                x.takes = st.secs;
                return;
            }
            Long l = ask(1, g, s);
            if (l == null || l == 0) {
                x.waitsHere = true;
                x.waited++;
            } else {
                x.want[s] = 0;
                x.missed++;
            }
        }

        void leave(int g) {
            Gs x = gs.get(g);
            Long e = ask(2, g, -1);
            int eats = e == null ? x.plate : (int) Math.max(0, Math.min(e, x.plate));
            x.eaten += eats;
            x.left += x.plate - eats;
            boolean again = spec.again != null && x.plate > 0 && Arrays.stream(x.want).sum() > 0;
            line.remove(Integer.valueOf(g));
            x.state = again ? 2 : 3;
            x.backAt = again ? t + spec.again : -1;
            x.pos = -1;
            x.plate = 0;
        }

        void send(int g) {
            Gs x = gs.get(g);
            x.left += x.plate;
            x.plate = 0;
            x.takes = 0;
            x.pos = -1;
            x.state = 3;
            line.remove(Integer.valueOf(g));
        }

        Sim run(int n) {
            for (int i = 0; i < n; i++) second();
            return this;
        }

        int waited() { return gs.stream().mapToInt(x -> x.waited).sum(); }
    }

    final StringBuilder tape = new StringBuilder();
    int fault, place = -1;
    Spec spec = new Spec();
    Sim now = new Sim(spec, new ArrayList<>());
    Sim image;
    final List<Sim> undo = new ArrayList<>();
    final List<int[]> counts = new ArrayList<>();
    int known = -1;

    int feed(int a, int b, int c, int d, int e) {
        if (tape.length() > 780) return -1;
        for (int v : new int[] {a, b, c, d, e}) {
            for (int s = 24; s >= 0; s -= 8) tape.append((char) (v >> s & 255));
        }
        return tape.length();
    }

    int text(int n) {
        if (n < 0 || n > tape.length()) return -2;
        String t = tape.substring(0, n);
        tape.setLength(0);
        try {
            spec = new Parser(t).parse();
        } catch (Fault f) {
            fault = f.kind;
            place = f.place;
            return -1;
        }
        fault = 0;
        place = -1;
        List<Integer> row = new ArrayList<>();
        for (int i = 0; i < spec.stations.size(); i++) row.add(i);
        now = new Sim(spec, row);
        image = null;
        undo.clear();
        counts.clear();
        known = -1;
        return spec.lines;
    }

    int fault(int what) { return what == 0 ? fault : what == 1 ? place : -1; }

    static int pack(String name) {
        int v = 0;
        for (int i = 0; i < 6; i++) v = v * 32 + (i < name.length() ? name.charAt(i) - 96 : 0);
        return v;
    }

    int named(int what, int letters) {
        List<String> names = new ArrayList<>();
        if (what == 0) for (St s : spec.stations) names.add(s.name);
        if (what == 1) for (Gu g : spec.guests) names.add(g.name);
        if (what == 2) names.addAll(spec.mayNames);
        for (int i = 0; i < names.size(); i++) if (pack(names.get(i)) == letters) return i;
        return -1;
    }

    boolean isGuest(int g) { return g >= 0 && g < spec.guests.size(); }
    boolean isStation(int s) { return s >= 0 && s < spec.stations.size(); }
    boolean isPan(int s) { return isStation(s) && spec.stations.get(s).pan; }
    static boolean in(int v, int lo, int hi) { return v >= lo && v <= hi; }

    int look(int guest, int what) {
        if (!isGuest(guest)) throw new IndexOutOfBoundsException();
        if (!in(what, 0, 10)) throw new NoSuchElementException();
        Gs x = now.gs.get(guest);
        return new int[] {x.state, x.pos, now.room(guest), Arrays.stream(x.want).sum(), x.takes, x.waited, x.taken,
            x.eaten, x.left, x.missed, x.came}[what];
    }

    int station(int s, int what) {
        if (!isStation(s) || !in(what, 0, 9)) return -1;
        St st = spec.stations.get(s);
        Ps p = now.ps.get(s);
        return new int[] {st.secs, st.places, st.pan ? p.portions : -1, p.age, p.due, p.taken, p.cold, p.empty,
            p.filled, now.row.indexOf(s)}[what];
    }

    int row(int place) { return in(place, 0, now.row.size() - 1) ? now.row.get(place) : -1; }
    int line(int k) { return in(k, 0, now.line.size() - 1) ? now.line.get(k) : -1; }

    int seconds(int n) {
        if (!in(n, 0, 900) || now.t + n > 3600) return -1;
        if (n > 0) undo.clear();
        now.run(n);
        return now.t;
    }

    void remember() {
        undo.add(now.copy());
        if (undo.size() > 20) undo.remove(0);
    }

    int put(int s) {
        if (!isPan(s)) return -1;
        remember();
        Ps p = now.ps.get(s);
        p.portions += spec.stations.get(s).portions;
        p.age = 0;
        p.filled++;
        return p.portions;
    }

    boolean change(int a, int b) {
        if (!isStation(a) || !isStation(b) || a == b || !now.line.isEmpty()) return false;
        remember();
        java.util.Collections.swap(now.row, a, b);
        return true;
    }

    boolean send(int g) {
        if (!isGuest(g) || now.gs.get(g).state == 3) return false;
        remember();
        now.send(g);
        return true;
    }

    int undo() {
        if (undo.isEmpty()) return -1;
        now = undo.remove(undo.size() - 1);
        return undo.size();
    }

    Sim run(Spec s, int n) { return new Sim(s, now.row).run(n); }
    int waited(int n) { return in(n, 0, 3600) ? run(spec, n).waited() : -1; }

    int slow(int g, int n) {
        if (!isGuest(g) || !in(n, 0, 3600)) return Integer.MIN_VALUE;
        Sim with = run(spec, n);
        Spec s = spec.copy();
        s.guests.get(g).never = true;
        return with.waited() - with.gs.get(g).waited - run(s, n).waited();
    }

    int many(int station, int n, int bound) {
        if (!isStation(station) || !in(n, 0, 3600) || !in(bound, 0, 99999)) return -1;
        for (int p = 1; p <= 4; p++) {
            Spec s = spec.copy();
            s.stations.get(station).places = p;
            if (run(s, n).waited() <= bound) return p;
        }
        return -2;
    }

    void rows(List<Integer> head, List<List<Integer>> out) {
        if (head.size() == spec.stations.size()) {
            out.add(new ArrayList<>(head));
            return;
        }
        for (int s = 0; s < spec.stations.size(); s++) {
            if (!head.contains(s)) {
                head.add(s);
                rows(head, out);
                head.remove(head.size() - 1);
            }
        }
    }

    int best(int n, int what) {
        if (spec.stations.isEmpty() || !in(n, 0, 3600) || !in(what, 0, spec.stations.size())) return -1;
        List<List<Integer>> rows = new ArrayList<>();
        rows(new ArrayList<>(), rows);
        int least = Integer.MAX_VALUE;
        List<Integer> best = null;
        for (List<Integer> r : rows) {
            int w = new Sim(spec, r).run(n).waited();
            if (w < least) {
                least = w;
                best = r;
            }
        }
        return what == 0 ? least : best.get(what - 1);
    }

    int seen(int station, int n) {
        if (!isStation(station) || !in(n, 0, 3600)) return Integer.MIN_VALUE;
        List<Integer> rest = new ArrayList<>(now.row);
        rest.remove(Integer.valueOf(station));
        List<Integer> first = new ArrayList<>(rest);
        first.add(0, station);
        List<Integer> last = new ArrayList<>(rest);
        last.add(station);
        return new Sim(spec, first).run(n).ps.get(station).taken - new Sim(spec, last).run(n).ps.get(station).taken;
    }

    int plates(int size, int n, int what) {
        if (!in(size, 1, 20) || !in(n, 0, 3600) || !in(what, 0, 3)) return -1;
        Spec s = spec.copy();
        for (Gu g : s.guests) g.size = size;
        Sim sim = run(s, n);
        int taken = sim.gs.stream().mapToInt(x -> x.taken).sum();
        int left = sim.gs.stream().mapToInt(x -> x.left).sum();
        int again = sim.gs.stream().mapToInt(x -> Math.max(0, x.came - 1)).sum();
        return new int[] {taken, left, again, sim.waited()}[what];
    }

    int worth(int n) {
        if (!in(n, 0, 3600)) return Integer.MIN_VALUE;
        Spec a = spec.copy();
        a.pass = false;
        Spec b = spec.copy();
        b.pass = true;
        return run(a, n).waited() - run(b, n).waited();
    }

    int fill(int station, int n, int p, int q, int what) { return weigh(station, n, p, q, what, true); }
    int rule(int station, int n, int p, int q, int what) { return weigh(station, n, p, q, what, false); }

    int weigh(int station, int n, int p, int q, int what, boolean fill) {
        if (!isPan(station) || !in(n, 0, 3600) || !in(p, 0, 99) || !in(q, 0, 99) || !in(what, 0, 1)) return -1;
        int best = -1;
        int least = Integer.MAX_VALUE;
        for (int v = fill ? 0 : 1; v <= (fill ? 59 : 60); v++) {
            Spec s = spec.copy();
            if (fill) s.stations.get(station).from = v;
            else s.stations.get(station).portions = v;
            Ps end = run(s, n).ps.get(station);
            int cost = p * end.empty + q * end.portions;
            if (cost < least) {
                least = cost;
                best = v;
            }
        }
        return what == 0 ? best : least;
    }

    int bus(int guest, int b, int t, int n) {
        if (!isGuest(guest) || !in(b, 1, 6) || !in(t, 0, 3599) || !in(n, 0, 3600)) return Integer.MIN_VALUE;
        Spec s = spec.copy();
        for (int i = 0; i < b; i++) {
            Gu g = spec.guests.get(guest).copy();
            g.comes = t;
            s.guests.add(g);
        }
        return run(s, n).waited() - run(spec, n).waited();
    }

    int chance(int seed, int j, int n, int bound) {
        if (seed < 0 || !in(j, 0, 600) || !in(n, 0, 3600) || !in(bound, 0, 99999)) return -1;
        java.math.BigInteger last = java.math.BigInteger.valueOf(seed);
        int above = 0;
        for (int d = 0; d < 10; d++) {
            Spec s = spec.copy();
            for (Gu g : s.guests) {
                last = last.multiply(java.math.BigInteger.valueOf(1103515245)).add(java.math.BigInteger.valueOf(12345))
                        .mod(java.math.BigInteger.ONE.shiftLeft(31));
                g.comes = Math.min(3599, g.comes + last.shiftRight(16).intValue() % (j + 1));
            }
            if (run(s, n).waited() > bound) above++;
        }
        return above;
    }

    long law(int kind, int want, int room, int here, int line) {
        if (!in(kind, 0, 2) || !in(want, 0, 9999) || !in(room, 0, 9999) || !in(here, 0, 9999) || !in(line, 0, 9999)) {
            return Long.MIN_VALUE;
        }
        if (spec.law[kind] == null) return Long.MIN_VALUE;
        Map<String, Long> n = new HashMap<>();
        for (String s : NAMES) n.put(s, 0L);
        n.put("want", (long) want);
        n.put("room", (long) room);
        n.put("size", (long) room);
        n.put("here", (long) here);
        n.put("line", (long) line);
        try {
            return spec.law[kind].of(n);
        } catch (Failed f) {
            return Long.MIN_VALUE;
        }
    }

    int count(int station, int second, int from, int to) {
        if (!isPan(station) || !in(second, 0, 3599) || !in(from, 0, 99) || !in(to, from, 99) || counts.size() == 40) {
            return -1;
        }
        counts.add(new int[] {station, second, from, to});
        return counts.size() - 1;
    }

    int strike(int count) {
        if (!in(count, 0, counts.size() - 1) || counts.size() == 40) return -1;
        counts.add(new int[] {count});
        return counts.size() - 1;
    }

    boolean known(int n) {
        if (!in(n, -1, counts.size())) return false;
        known = n;
        return true;
    }

    boolean struck(int c, int n) {
        for (int i = c + 1; i < n; i++) {
            if (counts.get(i).length == 1 && counts.get(i)[0] == c && !struck(i, n)) return true;
        }
        return false;
    }

    int fits() {
        int bits = 0;
        int n = known < 0 ? counts.size() : known;
        for (int m = 0; m <= spec.mayNames.size(); m++) {
            Spec s = spec.copy();
            if (m < spec.mayNames.size()) s.law[spec.mayKinds.get(m)] = spec.mayTrees.get(m);
            boolean good = true;
            for (int i = 0; i < n; i++) {
                int[] c = counts.get(i);
                if (c.length == 1 || struck(i, n)) continue;
                int p = run(s, c[1] + 1).ps.get(c[0]).portions;
                good &= in(p, c[2], c[3]);
            }
            if (good) bits |= 1 << m;
        }
        return bits;
    }

    int keep() {
        image = now.copy();
        return now.t;
    }

    int back() {
        if (image == null) return -1;
        now = image.copy();
        undo.clear();
        return now.t;
    }

    int all(int what) {
        if (!in(what, 0, 12)) return -1;
        return new int[] {spec.stations.size(), spec.guests.size(), spec.mayNames.size(), spec.knots, now.t,
            counts.size(), known < 0 ? counts.size() : known, undo.size(), now.line.size(),
            now.gs.stream().mapToInt(x -> x.taken).sum(), now.gs.stream().mapToInt(x -> x.left).sum(),
            now.ps.stream().mapToInt(x -> x.portions).sum(), now.waited()}[what];
    }
}
