import java.lang.management.ManagementFactory;
import java.util.Random;

/** Any arguments in any state: no call makes objects, none throws but look, and every call ends. */
public final class RoomTest {
    private static final int[] EDGES = {Integer.MIN_VALUE, Integer.MIN_VALUE + 1, -10000, -2, -1, 0, 1, 2, 3, 4, 5, 6, 7, 8, 9, 10, 11, 12, 13,
        14, 15, 19, 20, 21, 39, 40, 41, 59, 60, 61, 98, 99, 100, 239, 240, 241, 599, 600, 601, 799, 800, 801, 899, 900, 901, 1800, 3598, 3599,
        3600, 3601, 9998, 9999, 10000, 65536, 99999, 100000, 1 << 25, 1 << 30, Integer.MAX_VALUE - 1, Integer.MAX_VALUE};
    private static final String[] TEXTS = {"", "station a 3 1;guest p 0 5 wants a 2;guest q 0 5 wants a 1;",
        "station a 240 4 pan 60 1 59 cold 1;station b 1 1 pan 1 900 0;station c 7 2;station d 9 1 pan 5 30 4;station e 2 1;"
            + "guest p 0 20 wants a 9 wants b 9 wants c 9 wants d 9 wants e 9;guest q 0 1 wants e 9 wants a 9;guest r 3 5 wants c 3 wants b 2;"
            + "guest s 40 7 wants d 9;guest t 41 7 wants d 9;guest u 42 7 wants d 9;guest v 43 7 wants d 9;guest w 44 7;guest x 3599 7 wants a 1;"
            + "again 1;law heap want/(line-2)+age;law leave late>60 and not here=999;law eats taken*taken-late;may heap m 9999*9999*9999;may eats n 1/0;",
        "guest a 0 1;guest b 0 1;guest c 1 1;pass;again 1800;close 0;", "law heap ((((((((1))))))));may leave x not not not 1;"};

    private static int edge(Random r) {
        return r.nextInt(3) == 0 ? r.nextInt(12) - 1 : EDGES[r.nextInt(EDGES.length)];
    }

    private static void call(EggTrays x, int which, Random r) {
        int a = edge(r);
        int b = edge(r);
        int c = edge(r);
        int d = edge(r);
        int e = edge(r);
        switch (which) {
            case 0: x.feed(a, b, c, d, e); break;
            case 1: x.text(a < 3 ? 9999 : a); break;
            case 2: x.fault(a); break;
            case 3: x.named(a, b); break;
            case 4: x.look(a, b); break;
            case 5: x.station(a, b); break;
            case 6: x.row(a); break;
            case 7: x.line(a); break;
            case 8: x.seconds(a); break;
            case 9: x.put(a); break;
            case 10: x.change(a, b); break;
            case 11: x.send(a); break;
            case 12: x.undo(); break;
            case 13: x.waited(a); break;
            case 14: x.slow(a, b); break;
            case 15: x.many(a, b, c); break;
            case 16: x.best(a, b); break;
            case 17: x.seen(a, b); break;
            case 18: x.plates(a, b, c); break;
            case 19: x.worth(a); break;
            case 20: x.fill(a, b, c, d, e); break;
            case 21: x.rule(a, b, c, d, e); break;
            case 22: x.bus(a, b, c, d); break;
            case 23: x.chance(a, b, c, d); break;
            case 24: x.law(a, b, c, d, e); break;
            case 25: x.count(a, b, c, d); break;
            case 26: x.strike(a); break;
            case 27: x.known(a); break;
            case 28: x.fits(); break;
            case 29: x.keep(); break;
            case 30: x.back(); break;
            default: x.all(a); break;
        }
    }

    private static void anything(int rounds) {
        Random r = new Random(11);
        for (int i = 0; i < rounds; i++) {
            EggTrays x = Check.told(TEXTS[i % TEXTS.length]);
            for (int k = 0; k < 400; k++) {
                int which = r.nextInt(32);
                String thrown = "nothing";
                try {
                    call(x, which, r);
                } catch (RuntimeException e) {
                    boolean byHand = e.getStackTrace().length > 0 && e.getStackTrace()[0].getClassName().equals("EggTrays")
                            && e.getStackTrace()[0].getMethodName().equals("look");
                    boolean due = e.getClass() == IndexOutOfBoundsException.class || e.getClass() == java.util.NoSuchElementException.class;
                    thrown = which == 4 && byHand && due ? "nothing" : e.toString();
                }
                Check.due("call " + which + " throws " + thrown, thrown.equals("nothing"), true);
            }
        }
    }

    /** All calls of a run live in one room: what calls make on the way would stay there. */
    private static void noObjects() {
        com.sun.management.ThreadMXBean bean = (com.sun.management.ThreadMXBean) ManagementFactory.getThreadMXBean();
        if (!bean.isThreadAllocatedMemorySupported()) {
            return;
        }
        long id = Thread.currentThread().getId();
        EggTrays x = Check.told(TEXTS[2]);
        Random r = new Random(5);
        long least = Long.MAX_VALUE;
        for (int round = 0; round < 5; round++) {
            long before = bean.getThreadAllocatedBytes(id);
            for (int k = 0; k < 512; k++) {
                int which = r.nextInt(32);
                call(x, which == 1 || which == 4 ? 5 : which, r);
            }
            least = Math.min(least, bean.getThreadAllocatedBytes(id) - before);
        }
        Check.due("bytes made by 512 calls: " + least, least < 4096, true);
        long before = bean.getThreadAllocatedBytes(id);
        EggTrays y = new EggTrays();
        long made = bean.getThreadAllocatedBytes(id) - before;
        Check.due("bytes of a new object: " + made, y.all(0) == 0 && made < 40000, true);
    }

    public static void main(String[] args) {
        anything(300);
        noObjects();
        Check.end();
    }
}
