/** Promises 26 to 30 and 33: laws, counts, strikes, what is known and fits, and all(). */
public final class LawTest {
    private static final long NO = Long.MIN_VALUE;

    private static void value(String e, long due) {
        EggTrays x = Check.told("law heap " + e + ";");
        Check.due("[" + e + "]", x.law(0, 7, 5, 3, 2), due);
    }

    private static void values() {
        value("want", 7);
        value("room", 5);
        value("size", 5);
        value("here", 3);
        value("line", 2);
        value("age+late+taken", 0);
        value("9999", 9999);
        value("1+2*3", 7);
        value("(1+2)*3", 9);
        value("10-3-2", 5);
        value("100/7/2", 7);
        value("100/(7/2)", 33);
        value("2*7/3", 4);
        value("7/3*2", 4);
        value("(0-7)/2", -3);
        value("7/(0-2)", -3);
        value("1<2", 1);
        value("2<2", 0);
        value("2<=2", 1);
        value("3=3", 1);
        value("3<>3", 0);
        value("3>=4", 0);
        value("4>3", 1);
        value("1+1=2", 1);
        value("not 0", 1);
        value("not 5", 0);
        value("not not 5", 1);
        value("not 1=2", 1);
        value("not 0 and 0", 0);
        value("not (0 and 0)", 1);
        value("5 and 7", 1);
        value("5 or 0", 1);
        value("0 or 0", 0);
        value("1 or 0 and 0", 1);
        value("(1 or 0) and 0", 0);
        value("1 and 0 or 1", 1);
        value("1<2 and 2<3 or 4", 1);
        value("(1<2)<3", 1);
        value("(1<2)+(2<3)", 2);
        value("not(1)+0", 0);
        value("not ".repeat(63) + "1", 0);
        value("not ".repeat(62) + "1", 1);
        value("((((((((" + "not ".repeat(63) + "0))))))))", 1);
        value("not(".repeat(8) + "not ".repeat(55) + "7" + ")".repeat(8), 0);
        value("1/0", NO);
        value("0 and 1/0", NO);
        value("1 or 1/0", NO);
        value("not 1/0", NO);
        value("5/(want-7)", NO);
        value("0*(1/0)", NO);
        value("1000*1000*1000*1000", 1000000000000L);
        value("0-1000*1000*1000*1000", -1000000000000L);
        value("1000*1000*1000*1000+1", NO);
        value("0-1000*1000*1000*1000-1", NO);
        value("1000*1000*1000*1001", NO);
        value("1000*1000*1000*1000*0", 0);
        value("1000*1000*1000*1000*(0-1)", -1000000000000L);
        value("1000*1000*1000*1000*(1000*1000*1000*1000)", NO);
        value("(0-1000*1000*1000*1000)*(1000*1000*1000*1000)", NO);
        value("1000*1000*1000*1000+1-1", NO);
        value("1000*1000*1000*1000-1000*1000*1000*1000", 0);
        value("(1000*1000*1000*1000+1)*0", NO);
        value("9999*9999*9999", 999700029999L);
        value("9999*9999*9999*9999/9999", NO);
    }

    private static void wrongLaws() {
        EggTrays x = Check.told("law leave want-room;");
        Check.due("leave", x.law(1, 1, 9999, 0, 0), -9998);
        Check.due("heap isn't told", x.law(0, 1, 1, 1, 1), NO);
        Check.due("eats isn't told", x.law(2, 1, 1, 1, 1), NO);
        Check.due("kind 3", x.law(3, 1, 1, 1, 1), NO);
        Check.due("kind -1", x.law(-1, 1, 1, 1, 1), NO);
        for (int i = 0; i < 4; i++) {
            for (int wrong : new int[] {-1, 10000}) {
                int[] v = {0, 0, 0, 0};
                v[i] = wrong;
                Check.due("no such name", x.law(1, v[0], v[1], v[2], v[3]), NO);
            }
        }
        EggTrays y = Check.told("may heap m 1;");
        Check.due("a may is not told as law", y.law(0, 1, 1, 1, 1), NO);
    }

    private static void fits() {
        String told = "station n 1 1;station e 1 1 pan 9 900 0;guest p 0 9 wants e 4;law heap 2;"
                + "may heap half want/2;may heap whole want;may heap three 3;may eats none 0;";
        EggTrays x = Check.told(told);
        Check.due("nothing known: all fit", x.fits(), 31);
        Check.due("count", x.count(1, 0, 7, 7), 0);
        Check.due("half, none, as told", x.fits(), 1 | 8 | 16);
        Check.due("strike it", x.strike(0), 1);
        Check.due("all fit", x.fits(), 31);
        Check.due("count", x.count(1, 0, 5, 6), 2);
        Check.due("whole, three", x.fits(), 2 | 4);
        Check.due("count", x.count(1, 3599, 6, 99), 3);
        Check.due("three", x.fits(), 4);
        Check.due("strike the strike", x.strike(1), 4);
        Check.due("none", x.fits(), 0);
        Check.due("strike the strike of the strike", x.strike(4), 5);
        Check.due("three", x.fits(), 4);
        Check.due("known by 0", x.known(0), true);
        Check.due("all fit", x.fits(), 31);
        Check.due("known by 1", x.known(1), true);
        Check.due("by the first", x.fits(), 1 | 8 | 16);
        Check.due("known by 4", x.known(4), true);
        Check.due("all(6)", x.all(6), 4);
        Check.due("three", x.fits(), 4);
        Check.due("known by 5", x.known(5), true);
        Check.due("none", x.fits(), 0);
        Check.due("known by 6", x.known(6), true);
        Check.due("three", x.fits(), 4);
        x.count(1, 0, 99, 99);
        Check.due("by 6, not those to come", x.fits(), 4);
        Check.due("known by all", x.known(-1), true);
        Check.due("none", x.fits(), 0);
        x.strike(6);
        Check.due("three", x.fits(), 4);
        Check.due("known(9)", x.known(9), false);
        Check.due("known(8)", x.known(8), true);
        Check.due("known(-2)", x.known(-2), false);
        Check.due("it stays", x.all(6), 8);
        x.put(1);
        x.seconds(5);
        Check.due("nothing by hand in a run", x.fits(), 4);
        Check.due("the laws stay", x.law(0, 9, 0, 0, 0), 2);
    }

    private static void countsAtManySeconds() {
        EggTrays x = Check.told("station e 1 1 pan 9 900 0;guest p 0 9 wants e 2;guest q 10 9 wants e 2;guest r 20 9 wants e 2;may heap one 1;");
        x.count(0, 20, 3, 3);
        x.count(0, 9, 7, 7);
        x.count(0, 10, 5, 5);
        x.count(0, 9, 6, 8);
        x.count(0, 19, 5, 5);
        x.count(0, 0, 7, 7);
        Check.due("as told", x.fits(), 2);
        x.known(0);
        int far = x.count(0, 19, 3, 3);
        x.known(-1);
        Check.due("not yet at 19", x.fits(), 0);
        x.strike(far);
        Check.due("as told", x.fits(), 2);
        x.count(0, 11, 7, 7);
        Check.due("no more at 11", x.fits(), 0);
    }

    private static void seven() {
        EggTrays x = Check.told("station e 1 1 pan 9 900 0;guest p 0 9 wants e 4;law eats 3;law leave 2;law heap 1;may heap a 2;may eats b 0;may leave c 0;may heap d 3;");
        Check.due("heap", x.law(0, 0, 0, 0, 0), 1);
        Check.due("leave", x.law(1, 0, 0, 0, 0), 2);
        Check.due("eats", x.law(2, 0, 0, 0, 0), 3);
        x.count(0, 5, 5, 7);
        Check.due("a, d", x.fits(), 1 | 8);
        x.count(0, 6, 6, 6);
        Check.due("d", x.fits(), 8);
    }

    private static void namesOfLaw() {
        EggTrays x = Check.told("station e 1 1 pan 9 900 0;guest p 5 9 wants e 4;law heap late+taken+age+1;law eats late+taken;law leave 1;");
        x.seconds(60);
        Check.due("late, taken, age are 0", x.law(0, 9, 9, 9, 9), 1);
        Check.due("late, taken are 0", x.law(2, 9, 9, 9, 9), 0);
    }

    private static void fitsByRow() {
        EggTrays x = Check.told("station a 4 1 pan 5 900 0;station b 4 1 pan 5 900 0;guest p 0 9 wants a 1 wants b 1;may heap two 2;");
        x.count(0, 0, 5, 5);
        Check.due("by the row as at first", x.fits(), 0);
        x.change(0, 1);
        Check.due("by the row as it is", x.fits(), 3);
        x.count(0, 4, 4, 4);
        Check.due("as told", x.fits(), 2);
    }

    private static void counts() {
        EggTrays x = Check.told("station e 1 1 pan 9 900 0;station n 1 1;");
        for (int[] wrong : new int[][] {{1, 0, 0, 0}, {2, 0, 0, 0}, {-1, 0, 0, 0}, {0, -1, 0, 0}, {0, 3600, 0, 0}, {0, 0, -1, 0}, {0, 0, 2, 1}, {0, 0, 0, 100}, {0, 0, 100, 100}}) {
            Check.due("wrong count", x.count(wrong[0], wrong[1], wrong[2], wrong[3]), -1);
        }
        Check.due("nothing to strike", x.strike(0), -1);
        Check.due("bounds", x.count(0, 3599, 0, 99), 0);
        Check.due("strike(1)", x.strike(1), -1);
        Check.due("strike(-1)", x.strike(-1), -1);
        for (int i = 1; i < 39; i++) {
            Check.due("count", x.count(0, 0, 9, 9), i);
        }
        Check.due("strike", x.strike(0), 39);
        Check.due("there are 40", x.count(0, 0, 9, 9), -1);
        Check.due("there are 40", x.strike(0), -1);
        Check.due("all(5)", x.all(5), 40);
        Check.due("all(6)", x.all(6), 40);
        Check.due("known(40)", x.known(40), true);
        Check.due("known(41)", x.known(41), false);
        Check.due("fits", x.fits(), 1);
    }

    private static void all() {
        EggTrays x = Check.told("station a 3 1 pan 4 9 0;station b 3 1 pan 5 9 0;station c 1 1;guest p 0 5 wants a 2 wants c 1;guest q 0 5 wants a 1;"
                + "guest r 9 5;law eats taken-1;may heap m (not want)+1;");
        x.seconds(5);
        x.put(1);
        x.count(0, 1, 1, 1);
        x.strike(0);
        x.known(1);
        // p: a 0..2, c 3, leaves at 4 with 3, leaving 1; q waits 0..2, takes 3..5.
        int[] due = {3, 3, 1, 7, 5, 2, 1, 1, 1, 4, 1, 11, 3};
        for (int what = 0; what < due.length; what++) {
            Check.due("all(" + what + ")", x.all(what), due[what]);
        }
        Check.due("all(13)", x.all(13), -1);
        Check.due("all(-1)", x.all(-1), -1);
        x.known(-1);
        Check.due("all known", x.all(6), 2);
    }

    public static void main(String[] args) {
        values();
        wrongLaws();
        fits();
        fitsByRow();
        countsAtManySeconds();
        seven();
        namesOfLaw();
        counts();
        all();
        Check.end();
    }
}
