import java.nio.charset.StandardCharsets;
import java.util.NoSuchElementException;

/** What the tests share: telling a text to an object, and counting answers that are not as due. */
final class Check {
    static final int INDEX = -1001;
    static final int ELEMENT = -1002;
    private static int wrong = 0;
    private static int asked = 0;

    private Check() {
    }

    static void due(String what, long got, long want) {
        asked++;
        if (got != want) {
            wrong++;
            if (wrong <= 40) {
                System.out.println(what + " answered " + got + ", due is " + want);
            }
        }
    }

    static void due(String what, boolean got, boolean want) {
        due(what, got ? 1 : 0, want ? 1 : 0);
    }

    /** The end of every test's main. */
    static void end() {
        System.out.println(asked + " answers, " + wrong + " not as due");
        if (wrong != 0 || asked == 0) {
            System.exit(1);
        }
    }

    static boolean good() {
        return wrong == 0;
    }

    /** The twenty bytes from a place on as five numbers, with blanks behind the text. */
    static int[] numbers(byte[] bytes, int from) {
        int[] numbers = new int[5];
        for (int i = 0; i < 20; i++) {
            int b = from + i < bytes.length ? bytes[from + i] & 255 : 32;
            numbers[i / 4] = numbers[i / 4] << 8 | b;
        }
        return numbers;
    }

    /** Feeds a text and has it read: what text() answers. */
    static int tell(EggTrays x, String text) {
        byte[] bytes = text.getBytes(StandardCharsets.ISO_8859_1);
        for (int from = 0; from < bytes.length; from += 20) {
            int[] n = numbers(bytes, from);
            x.feed(n[0], n[1], n[2], n[3], n[4]);
        }
        return x.text(bytes.length);
    }

    static EggTrays told(String text) {
        EggTrays x = new EggTrays();
        int lines = tell(x, text);
        if (lines < 0) {
            due("telling [" + text + "] (fault " + x.fault(0) + " at " + x.fault(1) + ")", lines, 0);
        }
        return x;
    }

    static void fault(String text, int kind, int place) {
        EggTrays x = new EggTrays();
        due("text of [" + text + "]", tell(x, text), -1);
        due("fault of [" + text + "]", x.fault(0), kind);
        due("place of [" + text + "]", x.fault(1), place);
    }

    /** look(), with numbers of their own for the two exceptions. */
    static int look(EggTrays x, int guest, int what) {
        try {
            return x.look(guest, what);
        } catch (IndexOutOfBoundsException e) {
            return INDEX;
        } catch (NoSuchElementException e) {
            return ELEMENT;
        }
    }

    static int look(Model x, int guest, int what) {
        try {
            return x.look(guest, what);
        } catch (IndexOutOfBoundsException e) {
            return INDEX;
        } catch (NoSuchElementException e) {
            return ELEMENT;
        }
    }
}
