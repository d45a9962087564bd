/** The boundary cases of ==== 2 and of promises 6 to 10, sentence by sentence: at the boundary, one below and one above. */
public final class SecondsEdgesTest {
    private static EggTrays at(String text, int second) {
        EggTrays x = Check.told(text);
        for (int left = second; left > 0; left -= 900) {
            x.seconds(Math.min(left, 900));
        }
        Check.due("second", x.all(4), second);
        return x;
    }

    private static void look(EggTrays x, String when, int guest, int what, int due) {
        Check.due(when + ": look(" + guest + ", " + what + ")", Check.look(x, guest, what), due);
    }

    private static void station(EggTrays x, String when, int station, int what, int due) {
        Check.due(when + ": station(" + station + ", " + what + ")", x.station(station, what), due);
    }

    /** "Each PAN that is due by t is filled: PORTIONS more, AGE 0." */
    private static void dueByT() {
        String text = "station e 1 1 pan 2 5 0;guest p 3 9 wants e 2;";
        station(at(text, 3), "not ordered ahead", 0, 4, -1);
        station(at(text, 4), "ordered in second 3", 0, 4, 8);
        station(at(text, 8), "behind second 7", 0, 2, 0);
        station(at(text, 8), "due yet", 0, 4, 8);
        station(at(text, 8), "behind second 7", 0, 3, 8);
        station(at(text, 9), "behind second 8", 0, 2, 2);
        station(at(text, 9), "age 0 and this second", 0, 3, 1);
        station(at(text, 9), "none on its way", 0, 4, -1);
        station(at(text, 9), "filled once", 0, 8, 1);
        station(at(text, 9), "seconds 3 .. 7", 0, 7, 5);
        String late = "station e 1 1 pan 2 900 59;";
        station(at(late, 900), "lag 900", 0, 8, 0);
        station(at(late, 901), "lag 900", 0, 8, 1);
        station(at(late, 901), "ordered again in the second of its filling", 0, 4, 1800);
        String quick = "station e 1 1 pan 60 1 59;";
        station(at(quick, 9), "60 are more than 59", 0, 4, -1);
        String next = "station e 1 1 pan 59 1 59;";
        station(at(next, 1), "lag 1", 0, 4, 1);
        station(at(next, 2), "the next second", 0, 2, 118);
    }

    /** "each GUEST whose second is t comes": 0 and 3599 too; by numbers, who comes again among them. */
    private static void comes() {
        look(at("guest p 0 1;", 0), "ahead of second 0", 0, 0, 0);
        look(at("guest p 0 1;", 1), "second 0", 0, 10, 1);
        look(at("guest p 7 1;", 7), "ahead of second 7", 0, 10, 0);
        look(at("guest p 7 1;", 8), "second 7", 0, 10, 1);
        look(at("guest p 3599 1;", 3599), "ahead of second 3599", 0, 0, 0);
        look(at("guest p 3599 1;", 3600), "second 3599", 0, 10, 1);
        // p takes in 0, leaves in 1 and comes again at 4, with q and n.
        EggTrays x = at("station a 1 1;guest n 4 1 wants a 1;guest p 0 1 wants a 2;guest q 4 1 wants a 1;again 3;", 5);
        Check.due("by numbers", x.line(0), 0);
        Check.due("by numbers", x.line(1), 1);
        Check.due("by numbers", x.line(2), 2);
        Check.due("three", x.line(3), -1);
        Check.due("behind those who are in it", at("station a 9 1;guest p 1 1 wants a 1;guest q 0 1 wants a 1;", 2).line(0), 1);
    }

    /** "they come AGAIN at t and so many seconds"; beyond the last second never. */
    private static void again() {
        String text = "station a 1 1;guest p 0 1 wants a 3;again 5;";
        look(at(text, 1), "takes", 0, 0, 1);
        look(at(text, 2), "left in second 1", 0, 0, 2);
        look(at(text, 6), "ahead of second 6", 0, 10, 1);
        look(at(text, 7), "second 6", 0, 10, 2);
        look(at(text, 7), "an empty plate, one portion", 0, 2, 0);
        look(at(text, 8), "sits again", 0, 3, 1);
        look(at(text, 13), "second 12", 0, 10, 3);
        look(at(text, 14), "no want left", 0, 0, 3);
        String last = "station a 1 1;guest p 1797 1 wants a 2;again 1800;";
        look(at(last, 3599), "ahead of second 3598", 0, 10, 2);
        look(at(last, 3600), "second 3598 and on", 0, 10, 2);
        look(at("station a 1 1;guest p 1798 1 wants a 2;again 1800;", 3600), "again at 3599", 0, 10, 2);
        look(at("station a 1 1;guest p 1799 1 wants a 2;again 1800;", 3600), "again at 3600: never", 0, 10, 1);
        look(at("station a 1 1;guest p 1799 1 wants a 2;again 1800;", 3600), "sits yet", 0, 0, 2);
        look(at("station a 1 1;guest p 0 1 wants a 2;again 1;", 2), "again 1", 0, 0, 2);
        look(at("station a 1 1;guest p 0 1 wants a 2;again 1;", 3), "again 1", 0, 10, 2);
    }

    /** "If there is a WANT left, again is told, and something was taken this time .. else they are DONE." */
    private static void done() {
        look(at("station a 1 1;guest p 0 1 wants a 2;", 9), "again isn't told", 0, 0, 3);
        look(at("station a 1 1;guest p 0 1 wants a 1;again 1800;", 9), "no want left", 0, 0, 3);
        look(at("station a 1 1;guest p 0 1 wants a 2;again 1800;", 9), "one left", 0, 0, 2);
        look(at("station a 1 1;guest p 0 9 wants a 2;law heap 0;again 1800;", 9), "nothing was taken", 0, 0, 3);
        look(at("station a 1 1;guest p 0 9 wants a 2;law heap 1;again 1800;", 9), "one was taken", 0, 0, 2);
        // Again with heap's E 0 then: something was taken, but not this time.
        look(at("station a 1 1;guest p 0 9 wants a 3;law heap late<5;again 9;", 30), "not this time", 0, 10, 2);
        look(at("station a 1 1;guest p 0 9 wants a 3;law heap late<5;again 9;", 30), "not this time", 0, 0, 3);
        look(at("guest p 0 9;again 9;", 1), "wants nothing: leaves at once", 0, 0, 3);
        look(at("station a 1 1;guest p 0 9;again 9;", 1), "wants nothing: leaves at once", 0, 0, 3);
    }

    /** "NEXT is the first place beyond POS .. whose STATION they want yet, if there is ROOM; none: the end." */
    private static void next() {
        EggTrays x = at("station a 1 1;station b 1 1;station c 1 1;guest p 0 4 wants a 2 wants c 3;", 1);
        look(x, "a first", 0, 1, 0);
        x.seconds(1);
        look(x, "b isn't wanted", 0, 1, 2);
        look(x, "no room", 0, 2, 0);
        x.seconds(1);
        look(x, "the end", 0, 0, 3);
        look(x, "one left", 0, 3, 1);
        EggTrays full = at("station a 1 1;station b 1 1;guest p 0 2 wants a 2 wants b 1;", 2);
        look(full, "no room for b", 0, 0, 3);
        EggTrays one = at("station a 1 1;station b 1 1;guest p 0 3 wants a 2 wants b 1;", 2);
        look(one, "room for one", 0, 6, 3);
        // Heap takes less than they want: they don't come to that place again.
        EggTrays less = at("station a 1 1;station b 1 1;guest p 0 9 wants a 5 wants b 1;law heap 1;", 2);
        look(less, "beyond pos", 0, 1, 1);
        look(less, "four left", 0, 3, 4);
        EggTrays back = at("station a 1 1;station b 1 1;guest p 0 9 wants b 1;", 1);
        look(back, "from -1 to place 1", 0, 1, 1);
    }

    /** "NEXT can be gone to only if the one right ahead in the LINE has a POS not below it (the end only if nobody is ahead)". */
    private static void blocked() {
        String stations = "station a 9 2;station b 9 2;station c 9 2;";
        EggTrays same = at(stations + "guest p 0 5 wants b 1;guest q 0 5 wants b 1;", 1);
        look(same, "the same place", 1, 4, 8);
        look(same, "not waited", 1, 5, 0);
        EggTrays ahead = at(stations + "guest p 0 5 wants b 1;guest q 0 5 wants a 1;", 1);
        look(ahead, "a place less", 1, 4, 8);
        EggTrays beyond = at(stations + "guest p 0 5 wants b 1;guest q 0 5 wants c 1;", 1);
        look(beyond, "a place more: blocked", 1, 4, 0);
        look(beyond, "pos of the one ahead", 1, 1, 1);
        look(beyond, "waited", 1, 5, 1);
        EggTrays pass = at(stations + "guest p 0 5 wants b 1;guest q 0 5 wants c 1;pass;", 1);
        look(pass, "goes by", 1, 4, 8);
        look(pass, "goes by", 1, 1, 2);
        // The one right ahead counts, not the first.
        EggTrays three = at(stations + "guest p 0 5 wants c 1;guest q 0 5 wants a 1;guest r 0 5 wants b 1;", 1);
        look(three, "behind q", 2, 1, 0);
        look(three, "behind q", 2, 5, 1);
        look(at(stations + "guest p 0 5 wants c 1;guest q 0 5;", 1), "the end", 1, 0, 1);
        look(at(stations + "guest p 0 5 wants c 1;guest q 0 5;", 1), "the end: up to c", 1, 1, 2);
        look(at(stations + "guest p 0 5 wants c 1;guest q 0 5;pass;", 1), "by pass", 1, 0, 3);
        look(at(stations + "guest p 0 5;guest q 0 5;", 1), "nobody is ahead then", 1, 0, 3);
        // "if that is more": q is at a as p, who has come behind, is at -1 or at a.
        EggTrays stays = at("station a 1 1;station b 9 1;guest p 0 5 wants a 1 wants b 1;guest q 0 5 wants a 1 wants b 1;", 12);
        look(stays, "waits for b", 1, 1, 1);
        look(at("guest p 0 1;guest q 0 1;", 1), "no stations", 1, 0, 3);
        // p holds a; q, behind, wants nothing more than p's place.
        EggTrays first = at("station a 2 1;station b 5 1;guest p 0 5 wants a 1;guest q 1 5 wants b 1;", 2);
        look(first, "from -1 up to a", 1, 1, 0);
    }

    /** "if its PAN is EMPTY (0 PORTIONS), they MISS it (WANT 0 there; one second goes by with it)". */
    private static void missed() {
        String text = "station e 1 2 pan 1 900 0;station b 1 2;guest p 0 9 wants e 1;guest q 0 9 wants e 3 wants b 1;guest r 0 9 wants e 1;pass;";
        EggTrays x = at(text, 1);
        look(x, "one portion is not empty", 0, 6, 1);
        look(x, "missed", 1, 9, 1);
        look(x, "want 0 there", 1, 3, 1);
        look(x, "stands there", 1, 1, 0);
        look(x, "doesn't take", 1, 4, 0);
        look(x, "has not waited", 1, 5, 0);
        x.seconds(1);
        look(x, "on to b", 1, 6, 1);
        look(x, "r left in second 1", 2, 0, 3);
        // Empty goes ahead of full places: who would wait misses it.
        EggTrays y = at("station e 9 1 pan 1 900 0;guest p 0 9 wants e 1;guest q 0 9 wants e 1;", 1);
        look(y, "misses, doesn't wait", 1, 9, 1);
        EggTrays z = at("station e 9 1 pan 2 900 0;guest p 0 9 wants e 1;guest q 0 9 wants e 1;", 1);
        look(z, "waits", 1, 5, 1);
        EggTrays w = at("station e 9 1 pan 2 900 0;guest p 0 9 wants e 1;guest q 0 9 wants e 1;law leave 1;", 1);
        look(w, "left out", 1, 9, 1);
        EggTrays filled = at("station e 1 1 pan 1 3 0;guest p 0 9 wants e 1;guest q 3 9 wants e 1;", 4);
        look(filled, "filled in the same second", 1, 6, 1);
        EggTrays early = at("station e 1 1 pan 1 3 0;guest p 0 9 wants e 1;guest q 2 9 wants e 1;", 3);
        look(early, "a second too early", 1, 9, 1);
    }

    /** "if fewer than its PLACES take there": 1 .. 4 of them. */
    private static void places() {
        for (int places = 1; places <= 4; places++) {
            StringBuilder text = new StringBuilder("station a 5 " + places + ";");
            for (int i = 0; i < 6; i++) {
                text.append("guest ").append((char) ('a' + i)).append(" 0 1 wants a 1;");
            }
            EggTrays x = at(text.toString(), 1);
            for (int i = 0; i < 6; i++) {
                look(x, places + " places", i, 4, i < places ? 4 : 0);
                look(x, places + " places", i, 5, i < places ? 0 : 1);
            }
        }
    }

    /** "else they WAIT, if leave's E is 0 (no such law, an ERROR: it is), or LEAVE it OUT (WANT 0 there)". */
    private static void leave() {
        String text = "station a 9 1;guest p 0 9 wants a 1;guest q 0 9 wants a 2;";
        String[] waits = {"", "law leave 0;", "law leave 1/0;", "law leave 1000*1000*1000*1000+1;", "law leave 1-1;", "law leave line<2;"};
        for (String law : waits) {
            EggTrays x = at(text + law, 1);
            look(x, "[" + law + "] waits", 1, 5, 1);
            look(x, "[" + law + "] waits", 1, 3, 2);
            look(x, "[" + law + "] waits", 1, 9, 0);
            x.seconds(9);
            look(x, "[" + law + "] takes then", 1, 6, 2);
        }
        String[] leaves = {"law leave 1;", "law leave 0-1;", "law leave 2;", "law leave 1000*1000*1000*1000;", "law leave line>=2;"};
        for (String law : leaves) {
            EggTrays x = at(text + law, 1);
            look(x, "[" + law + "] leaves it out", 1, 5, 0);
            look(x, "[" + law + "] want 0", 1, 3, 0);
            look(x, "[" + law + "] counted", 1, 9, 1);
            look(x, "[" + law + "] stands there", 1, 1, 0);
            look(x, "[" + law + "] is in the line", 1, 0, 1);
        }
    }

    /** "Each one who takes has a second less to (this one counts); at 0 they take no more." */
    private static void seconds() {
        EggTrays one = at("station a 1 1;guest p 0 9 wants a 1;guest q 0 9 wants a 1;", 1);
        look(one, "1 second", 0, 4, 0);
        look(one, "in the line yet", 0, 0, 1);
        one.seconds(1);
        look(one, "left", 0, 0, 3);
        look(one, "the place is free", 1, 6, 1);
        String most = "station a 240 1;guest p 0 9 wants a 1;guest q 0 9 wants a 1;";
        look(at(most, 1), "240 seconds", 0, 4, 239);
        look(at(most, 239), "240 seconds", 0, 4, 1);
        look(at(most, 240), "240 seconds", 0, 4, 0);
        look(at(most, 240), "q", 1, 6, 0);
        look(at(most, 241), "q takes in second 240", 1, 6, 1);
        look(at(most, 241), "q waited", 1, 5, 240);
    }

    /** "Each PAN with PORTIONS at most FROM, none on its way, t below close, is ordered: due at t and LAG." */
    private static void orders() {
        String[] from = {"0", "1", "2", "3"};
        int[] due = {-1, -1, 9, 9};
        for (int i = 0; i < from.length; i++) {
            station(at("station e 1 1 pan 3 9 " + from[i] + ";guest p 0 9 wants e 1;", 1), "2 portions, from " + from[i], 0, 4, due[i]);
        }
        station(at("station e 1 1 pan 3 9 59;", 10), "filled at 9, ordered anew", 0, 4, 18);
        station(at("station e 1 1 pan 3 9 59;", 9), "one at a time", 0, 4, 9);
        for (int close = 4; close <= 7; close++) {
            EggTrays x = at("station e 1 1 pan 3 9 0;guest p 5 9 wants e 3;close " + close + ";", 6);
            station(x, "close " + close, 0, 4, close > 5 ? 14 : -1);
        }
        // What is on its way comes, though it is closed.
        EggTrays way = at("station e 1 1 pan 3 9 0;guest p 5 9 wants e 3;close 6;", 15);
        station(way, "on its way", 0, 2, 3);
        station(at("station e 1 1 pan 3 9 59;close 0;", 20), "close 0", 0, 8, 0);
        station(at("station e 1 1 pan 3 900 59;close 3599;", 3600), "the last ordered at 2700", 0, 8, 3);
        station(at("station e 1 1 pan 60 9 0;guest p 3599 9 wants e 1;law heap 60;close 3600;", 3600), "51 are not 0", 0, 4, -1);
        station(at("station e 1 1 pan 9 9 0;guest p 3599 9 wants e 9;close 3600;", 3600), "second 3599 is below 3600", 0, 4, 3608);
        station(at("station e 1 1 pan 9 9 0;guest p 3599 9 wants e 9;", 3600), "3600 without close", 0, 4, 3608);
        station(at("station e 1 1 pan 9 9 0;guest p 3599 9 wants e 9;close 3599;", 3600), "second 3599 isn't below 3599", 0, 4, -1);
    }

    /** "AGE is one more; with 0 PORTIONS it was EMPTY a second more." */
    private static void ageAndEmpty() {
        EggTrays x = at("station e 1 1 pan 1 900 0;station n 1 1;guest p 4 9 wants e 1;", 4);
        station(x, "age", 0, 3, 4);
        station(x, "full", 0, 7, 0);
        station(x, "no pan", 1, 3, 0);
        x.seconds(1);
        station(x, "empty in second 4", 0, 7, 1);
        station(x, "age goes on", 0, 3, 5);
        x.seconds(100);
        station(x, "empty", 0, 7, 101);
        station(x, "no pan is never empty", 1, 7, 0);
        station(at("station e 1 1 pan 1 900 0;", 3600), "an hour", 0, 3, 3600);
    }

    /** "and COLD, if AGE is cold or above". */
    private static void cold() {
        for (int second = 3; second <= 7; second++) {
            EggTrays x = at("station e 1 1 pan 9 900 0 cold 5;guest p " + second + " 9 wants e 2;", second + 1);
            station(x, "age " + second, 0, 6, second >= 5 ? 2 : 0);
            station(x, "taken", 0, 5, 2);
        }
        station(at("station e 1 1 pan 9 900 0 cold 3600;guest p 3599 9 wants e 2;", 3600), "age 3599", 0, 6, 0);
        station(at("station e 1 1 pan 9 900 0 cold 3599;guest p 3599 9 wants e 2;", 3600), "age 3599", 0, 6, 2);
        station(at("station e 1 1 pan 9 900 0 cold 1;guest p 0 9 wants e 2;", 1), "age 0", 0, 6, 0);
        station(at("station e 1 1 pan 9 900 0 cold 1;guest p 1 9 wants e 2;", 2), "age 1", 0, 6, 2);
        station(at("station e 1 1 pan 9 900 0;guest p 3599 9 wants e 2;", 3600), "never without", 0, 6, 0);
        station(at("station e 1 1 cold 1;guest p 3599 9 wants e 2;", 3600), "no pan", 0, 6, 0);
    }

    /** "HEAP: heap's E (without such a law, with an ERROR: WANT), 0 at least, at most ROOM and what is in the PAN". */
    private static void heap() {
        String[] laws = {"", "law heap 1/0;", "law heap 0-1;", "law heap 0;", "law heap 1;", "law heap 4;", "law heap 5;", "law heap 6;", "law heap 7;", "law heap 9999;"};
        int[] noPan = {3, 3, 0, 0, 1, 4, 5, 6, 6, 6};
        int[] ofFive = {3, 3, 0, 0, 1, 4, 5, 5, 5, 5};
        int[] wants = {0, 0, 3, 3, 2, 0, 0, 0, 0, 0};
        for (int i = 0; i < laws.length; i++) {
            EggTrays x = at("station a 4 1;guest p 0 6 wants a 3;" + laws[i], 1);
            look(x, laws[i], 0, 6, noPan[i]);
            look(x, laws[i], 0, 2, 6 - noPan[i]);
            look(x, laws[i], 0, 3, wants[i]);
            look(x, laws[i], 0, 4, 3);
            station(x, laws[i], 0, 5, noPan[i]);
            EggTrays y = at("station a 4 1 pan 5 900 0;guest p 0 6 wants a 3;" + laws[i], 1);
            look(y, laws[i], 0, 6, ofFive[i]);
            look(y, laws[i], 0, 3, wants[i]);
            station(y, laws[i], 0, 2, 5 - ofFive[i]);
        }
        EggTrays few = at("station a 4 1 pan 2 900 0;guest p 0 6 wants a 3;", 1);
        look(few, "what is in the pan", 0, 6, 2);
        look(few, "one is left", 0, 3, 1);
        EggTrays small = at("station a 4 1 pan 9 900 0;guest p 0 2 wants a 3;", 1);
        look(small, "room", 0, 6, 2);
        look(small, "one is left", 0, 3, 1);
    }

    /** "eats' E (all without, with an ERROR; 0 at least, all at most) is EATEN, the rest LEFT". */
    private static void eats() {
        String[] laws = {"", "law eats 1/0;", "law eats 0-1;", "law eats 0;", "law eats 1;", "law eats 2;", "law eats 3;", "law eats 4;", "law eats 9999*9999;"};
        int[] eaten = {3, 3, 0, 0, 1, 2, 3, 3, 3};
        for (int i = 0; i < laws.length; i++) {
            EggTrays x = at("station a 1 1;guest p 0 6 wants a 3;" + laws[i], 2);
            look(x, laws[i], 0, 7, eaten[i]);
            look(x, laws[i], 0, 8, 3 - eaten[i]);
            Check.due(laws[i] + " left in all", x.all(10), 3 - eaten[i]);
            EggTrays nothing = at("station a 1 1;guest p 0 6;" + laws[i], 2);
            look(nothing, "nothing on the plate" + laws[i], 0, 7, 0);
            look(nothing, "nothing on the plate" + laws[i], 0, 8, 0);
        }
    }

    /** What the guests have taken in all at a second, one after the other. */
    private static void taken(String text, int second, int... due) {
        EggTrays x = Check.told(text);
        x.seconds(second);
        for (int guest = 0; guest < due.length; guest++) {
            look(x, "[" + text + "] at " + second, guest, 6, due[guest]);
        }
    }

    /** "here: PORTIONS in the PAN (999 without one ..); age: of the PAN (0 without ..)". */
    private static void namesOfPans() {
        // Ordered in second 0, filled in second 4.
        int[] age = {0, 1, 2, 3, 0, 1};
        for (int second = 0; second < age.length; second++) {
            taken("station e 1 1 pan 9 4 9;guest p " + second + " 9 wants e 1;law heap age+1;close 1;", second + 1, age[second] + 1);
            taken("station e 1 1;guest p " + second + " 9 wants e 1;law heap age+1;", second + 1, 1);
        }
        taken("station e 1 2 pan 9 900 0;guest p 0 4 wants e 1;guest q 0 9 wants e 1;law heap here;", 1, 4, 5);
        taken("station e 1 1 pan 9 900 0;guest p 0 9 wants e 1;law heap 1+(here=9)*2;", 1, 3);
        taken("station e 1 1;guest p 0 9 wants e 1;law heap 1+(here=999)*2;", 1, 3);
        for (String pan : new String[] {"", " pan 9 900 0"}) {
            String text = "station e 9 1" + pan + ";guest p 0 9 wants e 1;guest q 0 9 wants e 1;law leave ";
            look(at(text + "here=999;", 1), "here of [" + pan + "]", 1, 9, pan.isEmpty() ? 1 : 0);
            look(at(text + "here=8;", 1), "here of [" + pan + "]", 1, 9, pan.isEmpty() ? 0 : 1);
            look(at(text + "age=2;", 3), "age of [" + pan + "]", 1, 9, pan.isEmpty() ? 0 : 1);
            look(at(text + "age>2;", 3), "age of [" + pan + "]", 1, 9, 0);
        }
        String eats = "station e 1 1 pan 9 900 0;guest p 5 9 wants e 4;law eats 1+";
        look(at(eats + "here;", 7), "here in eats", 0, 7, 1);
        look(at(eats + "age;", 7), "age in eats", 0, 7, 1);
    }

    /** "want: WANT there (all together in eats); room, size; .. line: how many are in the LINE ..; late: .. (first); taken: what is on the plate". */
    private static void namesOfGuests() {
        String again = "station a 1 1;guest p 3 9 wants a 9;again 5;law heap late+1;";
        taken(again, 4, 1);
        taken(again, 9, 1);
        taken(again, 10, 8);
        taken(again, 15, 8);
        taken(again, 16, 17);
        String two = "station a 1 1;station b 1 1;guest p 0 9 wants a 2 wants b 3;law heap ";
        taken(two + "want;", 1, 2);
        taken(two + "want;", 2, 5);
        taken(two + "taken+1;", 1, 1);
        taken(two + "taken+1;", 2, 3);
        taken(two + "room-5;", 1, 4);
        taken(two + "room-5;", 2, 4);
        taken(two + "room-4;", 2, 5);
        taken(two + "size-5;", 2, 8);
        StringBuilder nine = new StringBuilder("station a 1 4;law heap line;");
        for (int i = 0; i < 9; i++) {
            nine.append("guest ").append((char) ('a' + i)).append(" 0 20 wants a 1;");
        }
        taken(nine.toString(), 1, 9, 9, 9, 9, 0, 0, 0, 0, 0);
        taken(nine.toString(), 2, 9, 9, 9, 9, 5, 5, 5, 5, 0);
        taken(nine.toString(), 3, 9, 9, 9, 9, 5, 5, 5, 5, 1);
        String eats = "station a 1 1;station b 1 1;station c 9 1;guest p 0 5 wants a 4 wants b 3 wants c 2;law eats ";
        look(at(eats + "want;", 9), "2 of b and 2 of c are left", 0, 7, 4);
        look(at(eats + "want-5;", 9), "no more than these", 0, 7, 0);
        look(at(eats + "taken-1;", 9), "what is on the plate", 0, 7, 4);
        look(at(eats + "room+1;", 9), "no room", 0, 7, 1);
        look(at(eats + "size-1;", 9), "size", 0, 7, 4);
        look(at(eats + "late;", 9), "left in second 2", 0, 7, 2);
        look(at(eats + "line;", 9), "alone", 0, 7, 1);
    }

    private static void value(String e, long due) {
        Check.due("[" + e + "]", Check.told("law eats " + e + ";").law(2, 7, 5, 3, 2), due);
    }

    /** "/ is cut towards 0; ERROR: / by 0, a value above 10 to the 12 or below 0 by more than that". */
    private static void values() {
        String most = "1000*1000*1000*1000";
        long twelve = 1000000000000L;
        value(most, twelve);
        value(most + "-1", twelve - 1);
        value(most + "+0", twelve);
        value(most + "+1", Long.MIN_VALUE);
        value("0-" + most, -twelve);
        value("1-" + most, 1 - twelve);
        value("0-" + most + "-1", Long.MIN_VALUE);
        value("0-1-" + most, Long.MIN_VALUE);
        value("0*(" + most + "+1)", Long.MIN_VALUE);
        value("1000*1000*1000*9999/9999", Long.MIN_VALUE);
        value("9999*9999*9999+9999*9999*3+2", 1000000000000L - 300000000 + 30000 - 1 + 299940003 + 2);
        value("(0-" + most + ")*1", -twelve);
        value("(0-" + most + ")*(0-1)", twelve);
        value("(0-" + most + ")/(0-1)", twelve);
        value("(0-" + most + ")*2", Long.MIN_VALUE);
        value("1000*1000*1000*100*9+1000*1000*1000*100", twelve);
        value("1000*1000*1000*100*9+1000*1000*1000*100+1", Long.MIN_VALUE);
        // 2 to the 64 is an ERROR too, though a long would make 0 of it.
        String high = "4096*4096*256";
        for (String a : new String[] {high, "(0-" + high + ")"}) {
            for (String b : new String[] {"(" + high + ")", "(0-" + high + ")"}) {
                value(a + "*" + b, Long.MIN_VALUE);
            }
            value(a + "*0", 0);
            value("0*" + "(" + a + ")", 0);
        }
        value("1/1", 1);
        value("1/0", Long.MIN_VALUE);
        value("0/0", Long.MIN_VALUE);
        value("0/(1-1)", Long.MIN_VALUE);
        value("0/1", 0);
        value("1/2", 0);
        value("(0-1)/2", 0);
        value("1/(0-2)", 0);
        value("3/2", 1);
        value("(0-3)/2", -1);
        value("3/(0-2)", -1);
        value("(0-3)/(0-2)", 1);
        value("(0-4)/2", -2);
        // "both sides are worked out", "what isn't 0 is as 1".
        value("0 and 1/0", Long.MIN_VALUE);
        value("1/0 and 0", Long.MIN_VALUE);
        value("1 or 1/0", Long.MIN_VALUE);
        value("1/0 or 1", Long.MIN_VALUE);
        value("(0-1) and 2", 1);
        value("(0-1) and 0", 0);
        value("(0-1) or 0", 1);
        value("not (0-1)", 0);
        value("not 0", 1);
        value("not 1", 0);
        value("not (1/0)", Long.MIN_VALUE);
        value("1<1/0", Long.MIN_VALUE);
        value("1=1/0", Long.MIN_VALUE);
    }

    /** "IndexOutOfBoundsException: no such GUEST. NoSuchElementException: no such what." */
    private static void looks() {
        for (int guest : new int[] {-1, 4, 9, Integer.MIN_VALUE, Integer.MAX_VALUE}) {
            for (int what : new int[] {0, 10, -1, 11}) {
                Twins.leavesAll("look(" + guest + ", " + what + ")", Twins.BUSY, y -> Check.look(y, guest, what), Check.INDEX);
            }
        }
        for (int guest : new int[] {0, 3}) {
            for (int what : new int[] {-1, 11, Integer.MIN_VALUE, Integer.MAX_VALUE}) {
                Twins.leavesAll("look(" + guest + ", " + what + ")", Twins.BUSY, y -> Check.look(y, guest, what), Check.ELEMENT);
            }
        }
        Check.due("no guests", Check.look(new EggTrays(), 0, 0), Check.INDEX);
        // By the row b, a, c. p: b 0 .. 2, a 3 .. 5, left at 6. q: blocked at 1, 2, waits 3 .. 5, a 6 .. 8, c 9, 10.
        // r: b from 9 on. s is sent away.
        int[][] due = {{2, -1, 3, 1, 0, 0, 3, 2, 1, 0, 1}, {1, 2, 3, 0, 0, 5, 2, 0, 0, 0, 1}, {1, 0, 4, 1, 1, 0, 1, 0, 0, 0, 1}, {3, -1, 5, 1, 0, 0, 0, 0, 0, 0, 0}};
        EggTrays x = new EggTrays();
        Twins.BUSY.on(x);
        for (int guest = 0; guest < due.length; guest++) {
            StringBuilder all = new StringBuilder();
            for (int what = 0; what <= 10; what++) {
                all.append(Check.look(x, guest, what)).append(' ');
            }
            for (int what = 0; what <= 10; what++) {
                look(x, "busy [" + all + "]", guest, what, due[guest][what]);
            }
        }
    }

    /** "(-1 and SIZE of those who aren't in the LINE)": to come, sitting, done, sent away. */
    private static void notInTheLine() {
        String text = "station a 2 1;guest p 3 2 wants a 3;again 5;";
        for (int second = 0; second <= 20; second++) {
            EggTrays x = at(text, second);
            boolean in = Check.look(x, 0, 0) == 1;
            look(x, "second " + second, 0, 1, in ? 0 : -1);
            look(x, "second " + second, 0, 2, in ? (second < 7 ? 0 : 1) : 2);
            Check.due("who is in the line", x.line(0), in ? 0 : -1);
            Check.due("how many", x.all(8), in ? 1 : 0);
        }
    }

    /** Promise 7 "NONE: no such ones", promises 8 and 9. */
    private static void stations() {
        for (int station : new int[] {-1, 3, 5, Integer.MIN_VALUE, Integer.MAX_VALUE}) {
            for (int what : new int[] {0, 9, -1, 10}) {
                Twins.leavesAll("station(" + station + ", " + what + ")", Twins.BUSY, y -> y.station(station, what), -1);
            }
            Twins.leavesAll("row(" + station + ")", Twins.BUSY, y -> y.row(station), -1);
        }
        for (int what : new int[] {-1, 10, Integer.MIN_VALUE, Integer.MAX_VALUE}) {
            Twins.leavesAll("station(0, " + what + ")", Twins.BUSY, y -> y.station(0, what), -1);
        }
        Check.due("no stations", new EggTrays().station(0, 0), -1);
        Check.due("no stations", new EggTrays().row(0), -1);
        for (int n = 1; n <= 5; n++) {
            StringBuilder text = new StringBuilder();
            for (int i = 0; i < n; i++) {
                text.append("station ").append((char) ('a' + i)).append(" 1 1;");
            }
            EggTrays x = Check.told(text.toString());
            for (int place = -1; place <= 6; place++) {
                Check.due(n + " stations, row(" + place + ")", x.row(place), place < n ? place : -1);
                Check.due(n + " stations, station(" + place + ", 9)", x.station(place, 9), place < n ? place : -1);
            }
        }
        for (int k : new int[] {-1, 2, 3, 9, Integer.MIN_VALUE, Integer.MAX_VALUE}) {
            Twins.leavesAll("line(" + k + ")", Twins.BUSY, y -> y.line(k), -1);
        }
        Twins.leavesAll("line(0)", Twins.BUSY, y -> y.line(0), 1);
        Twins.leavesAll("line(1)", Twins.BUSY, y -> y.line(1), 2);
        Check.due("nobody", new EggTrays().line(0), -1);
        StringBuilder nine = new StringBuilder("station a 240 1;");
        for (int i = 0; i < 9; i++) {
            nine.append("guest ").append((char) ('a' + i)).append(" 0 1 wants a 1;");
        }
        EggTrays y = at(nine.toString(), 1);
        for (int k = -1; k <= 10; k++) {
            Check.due("nine in the line, line(" + k + ")", y.line(k), k < 9 ? k : -1);
        }
    }

    /** "So many SECONDS (0 .. 900) more go by .. NONE, and none does: no such number, beyond 3600." */
    private static void goOn() {
        for (int n : new int[] {-1, 901, 3600, Integer.MIN_VALUE, Integer.MAX_VALUE}) {
            Twins.leavesAll("seconds(" + n + ")", Twins.BUSY, y -> y.seconds(n), -1);
        }
        Twins.leavesAll("seconds(0)", Twins.BUSY, y -> y.seconds(0), 11);
        EggTrays x = new EggTrays();
        Check.due("seconds(0)", x.seconds(0), 0);
        Check.due("seconds(1)", x.seconds(1), 1);
        Check.due("seconds(900)", x.seconds(900), 901);
        Check.due("seconds(899)", x.seconds(899), 1800);
        Check.due("seconds(900)", x.seconds(900), 2700);
        Check.due("seconds(899)", x.seconds(899), 3599);
        Twins.Deed late = y -> {
            Twins.BUSY.on(y);
            for (int i = 0; i < 4; i++) {
                y.seconds(897);
            }
            y.put(0);
            return y.all(4);
        };
        Check.due("3599", late.on(new EggTrays()), 3599);
        for (int n : new int[] {2, 3, 900}) {
            Twins.leavesAll("beyond 3600: seconds(" + n + ")", late, y -> y.seconds(n), -1);
        }
        EggTrays y = new EggTrays();
        late.on(y);
        Check.due("up to 3600", y.seconds(1), 3600);
        Check.due("none more", y.seconds(1), -1);
        Check.due("none more", y.seconds(900), -1);
        Check.due("none at all", y.seconds(0), 3600);
        Check.due("3600 is next", y.all(4), 3600);
    }

    /** "An object is used for at most 512 calls": the last of them answers as the first. */
    private static void calls() {
        EggTrays x = new EggTrays();
        EggTrays y = Check.told("station a 3 1 pan 2 9 0;guest p 0 5 wants a 1;");
        for (int i = 1; i <= 512; i++) {
            Check.due("call " + i, x.seconds(i <= 300 ? 12 : 0), i <= 300 ? 12 * i : 3600);
        }
        for (int i = 1; i <= 500; i++) {
            Check.due("put " + i, y.put(0), 2 + 2 * i);
        }
        Check.due("20 at most", y.all(7), 20);
        Check.due("filled", y.station(0, 8), 500);
    }

    public static void main(String[] args) {
        dueByT();
        comes();
        again();
        done();
        next();
        blocked();
        missed();
        places();
        leave();
        seconds();
        orders();
        ageAndEmpty();
        cold();
        heap();
        eats();
        namesOfPans();
        namesOfGuests();
        values();
        looks();
        notInTheLine();
        stations();
        goOn();
        calls();
        Check.end();
    }
}
