import java.nio.charset.StandardCharsets;
import java.util.NoSuchElementException;

/** What the tests share: feeding of texts, comparing of answers, and a picture of all that an object tells. */
final class Check {
    interface Call {
        Object go();
    }

    /** Numbers that are far out of any range; times 2 to 12, the last ones wrap around to small numbers. */
    static final int[] FAR_NUMBERS = {Integer.MAX_VALUE, Integer.MIN_VALUE, Integer.MIN_VALUE + 1, 1 << 16, 1 << 30,
        -(1 << 30), 1431655766, -1431655765, 715827883, 858993460, 858993459, -858993459, 390451573, -390451572,
        429496730, 613566757};

    private static int wrong;
    private static int checks;
    private static String part = "";

    private Check() {
    }

    static void part(String name) {
        part = name;
    }

    /** The sentence of the document that the checks from here on are about, in the document's own words. */
    static void sentence(String where, String words) {
        part = where + ", \"" + words + "\"";
    }

    static void due(String call, Object got, Object want) {
        checks++;
        if (!got.equals(want)) {
            wrong++;
            System.out.println(part + ": " + call + " answered " + got + ", due is " + want);
        }
    }

    static void noElement(String name, BathBoats x, Call call) {
        refused(name, x, call, NoSuchElementException.class);
    }

    static void badArgument(String name, BathBoats x, Call call) {
        refused(name, x, call, IllegalArgumentException.class);
    }

    private static void refused(String name, BathBoats x, Call call, Class<?> kind) {
        String before = picture(x);
        String got;
        try {
            got = String.valueOf(call.go());
        } catch (RuntimeException e) {
            got = e.getClass().getName();
        }
        due(name, got, kind.getName());
        due(name + " changes", picture(x), before);
    }

    /** A call that answers an error code changes nothing. */
    static void unchanged(String name, BathBoats x, Call call, Object want) {
        String before = picture(x);
        due(name, call.go(), want);
        due(name + " changes", picture(x), before);
    }

    static void end() {
        System.out.println(checks + " checks, " + wrong + " wrong");
        if (wrong != 0) {
            System.exit(1);
        }
    }

    static int feed(BathBoats x, String text) {
        byte[] bytes = text.getBytes(StandardCharsets.ISO_8859_1);
        for (int i = 0; i < bytes.length; i += 20) {
            int[] words = new int[5];
            for (int k = 0; k < 20; k++) {
                words[k / 4] = words[k / 4] << 8 | (i + k < bytes.length ? bytes[i + k] & 255 : ' ');
            }
            x.feed(words[0], words[1], words[2], words[3], words[4]);
        }
        return bytes.length;
    }

    static int load(BathBoats x, String text) {
        return x.load(feed(x, text));
    }

    static BathBoats bath(String text) {
        BathBoats x = new BathBoats();
        int answer = load(x, text);
        if (answer < 0) {
            due("load of " + text, answer, "a number of boats");
        }
        return x;
    }

    static int query(BathBoats x, String text) {
        return x.query(feed(x, text));
    }

    static String row(BathBoats x, int y) {
        StringBuilder text = new StringBuilder();
        int length = x.format(y);
        for (int i = 0; i < length; i++) {
            text.append((char) x.formattedByte(i));
        }
        return text.toString();
    }

    static String boat(BathBoats x, int boat) {
        StringBuilder text = new StringBuilder();
        for (int what = 0; what <= 10; what++) {
            text.append(what == 0 ? "" : " ").append(x.boat(boat, what));
        }
        return text.toString();
    }

    static String drain(BathBoats x, int drain) {
        StringBuilder text = new StringBuilder();
        for (int what = 0; what <= 5; what++) {
            text.append(what == 0 ? "" : " ").append(x.drain(drain, what));
        }
        return text.toString();
    }

    /** The soap in all cells, the rows parted by commas. */
    static String soaps(BathBoats x) {
        StringBuilder text = new StringBuilder();
        for (int y = 0; y < x.size(1); y++) {
            for (int c = 0; c < x.size(0); c++) {
                text.append(c > 0 ? " " : y > 0 ? "," : "").append(x.soap(c, y));
            }
        }
        return text.toString();
    }

    /** All that undoing restores, and the history's length and the error position. */
    static String picture(BathBoats x) {
        return state(x) + "|" + x.undoCount() + "|" + x.errorPosition();
    }

    static String state(BathBoats x) {
        StringBuilder text = new StringBuilder();
        for (int what = 0; what <= 14; what++) {
            text.append(x.size(what)).append(' ');
        }
        for (int b = 0; b < x.size(4); b++) {
            text.append("| ").append(boat(x, b)).append(' ');
        }
        for (int d = 0; d < x.size(2); d++) {
            text.append("| ").append(drain(x, d)).append(' ');
        }
        for (int t = 0; t < x.size(3); t++) {
            text.append("| ").append(x.tap(t, 0)).append(' ').append(x.tap(t, 1)).append(' ').append(x.tap(t, 2));
        }
        for (int y = 0; y < x.size(1); y++) {
            for (int c = 0; c < x.size(0); c++) {
                text.append(' ').append(x.soap(c, y)).append('/').append(x.boatAt(c, y));
            }
        }
        for (int i = 0; i < x.size(6) + x.size(7); i++) {
            text.append(' ').append(x.ended(i, 0));
        }
        return text.toString();
    }
}
