/** Promises 1 to 4, 44 and 45: each sentence that names a boundary, in the document's words, with a test of its own. */
public final class TextEdgeTest {
    private static final int SPACES = 0x20202020;

    public static void main(String[] args) {
        newObject();
        bytesOfNumbers();
        fullBuffer();
        replacesEverything();
        discards();
        emptyAfterwards();
        errorChangesOnlyTheBuffer();
        loadLengths();
        positions();
        formattedRow();
        formattedBytes();
        Check.end();
    }

    private static int feedSpaces(BathBoats x) {
        return x.feed(SPACES, SPACES, SPACES, SPACES, SPACES);
    }

    private static void newObject() {
        Check.sentence("promise 1", "Creates a bath as by the text \"bath 5 5;\", with an empty buffer.");
        BathBoats x = new BathBoats();
        Check.badArgument("load(1)", x, () -> x.load(1));
        Check.badArgument("query(1)", x, () -> x.query(1));
        Check.due("the bytes after a first feed", feedSpaces(x), 20);
        BathBoats y = new BathBoats();
        Check.due("the state", Check.state(y), Check.state(Check.bath("bath 5 5;")));
        Check.due("soap in the last cell", y.soap(4, 4), 0);
        Check.noElement("soap(5, 4)", y, () -> y.soap(5, 4));
        Check.noElement("soap(4, 5)", y, () -> y.soap(4, 5));
        Check.noElement("boat(0, 0)", y, () -> y.boat(0, 0));
        Check.noElement("drain(0, 0)", y, () -> y.drain(0, 0));
        Check.noElement("tap(0, 0)", y, () -> y.tap(0, 0));
        Check.noElement("afloat(0)", y, () -> y.afloat(0));
        Check.noElement("ended(0, 0)", y, () -> y.ended(0, 0));
        Check.due("load(0) of nothing", y.load(0), -11);
    }

    private static void bytesOfNumbers() {
        Check.sentence("promise 2", "Appends 20 bytes to the buffer: the four bytes of each parameter, "
                + "the most significant byte first.");
        String text = "bath 3 4;soap 2 3 9;";
        for (int k = 0; k < 20; k++) {
            int[] words = new int[5];
            for (int i = 0; i < 20; i++) {
                words[i / 4] = words[i / 4] << 8 | (i == k ? 0x80 : 0) | text.charAt(i);
            }
            BathBoats x = new BathBoats();
            x.feed(words[0], words[1], words[2], words[3], words[4]);
            Check.due("load with the uppermost bit of byte " + k, x.load(20), -11);
            // what is left of a word that such a byte cuts is an error already
            Check.due("its position, byte " + k, x.errorPosition(), k < 4 ? 0 : k >= 9 && k < 13 ? 9 : k);
        }
        BathBoats x = new BathBoats();
        Check.due("feed of the text itself", Check.feed(x, text), 20);
        Check.due("load", x.load(20), 0);
        Check.due("soap(2, 3)", x.soap(2, 3), 9);
        x.feed(-1, -1, -1, -1, -1);
        Check.due("load of bytes 255", x.load(20), -11);
        Check.due("their position", x.errorPosition(), 0);
    }

    /** A text of 700 bytes, of which the last clause ends in the last byte. */
    private static BathBoats full() {
        BathBoats x = new BathBoats();
        StringBuilder text = new StringBuilder("bath 5 5;");
        while (text.length() < 700 - 11) {
            text.append(' ');
        }
        Check.due("bytes fed", Check.feed(x, text.append("soap 4 4 7;").toString()), 700);
        return x;
    }

    private static void fullBuffer() {
        Check.sentence("promise 2", "Returns the number of bytes in the buffer; NONE if it would exceed 700, "
                + "and then nothing is appended.");
        BathBoats count = new BathBoats();
        for (int i = 1; i <= 35; i++) {
            Check.due("feed no " + i, feedSpaces(count), 20 * i);
        }
        BathBoats x = full();
        for (int i = 0; i < 3; i++) {
            Check.due("feed upon 700 bytes", x.feed(-1, -1, -1, -1, -1), -1);
        }
        Check.badArgument("load(701)", x, () -> x.load(701));
        Check.badArgument("load(720)", x, () -> x.load(720));
        Check.due("load(700)", x.load(700), 0);
        Check.due("soap(4, 4)", x.soap(4, 4), 7);
        Check.due("feed after it", feedSpaces(x), 20);
        BathBoats shorter = full();
        Check.due("load(699)", shorter.load(699), -11);
        Check.due("its position", shorter.errorPosition(), 699);
    }

    private static void replacesEverything() {
        Check.sentence("promise 3", "Reads the first bytes of the buffer as a text, which replaces everything");
        BathBoats x = Check.bath("bath 6 4 level 90 push 3 wind 4 -5;drain 0 0 9 9;tap 1 1 9;boat 0 0 5 9;boat 2 2 9 1;"
                + "boat 3 3 9 99;soap 5 3 99;");
        x.turn(7);
        Check.due("boats that ended before", x.size(6) + x.size(7), 2);
        Check.feed(x, "bath 6 4;boat 5 3 9 9;");
        Check.due("load of a part", x.load(9), 0);
        Check.due("the state", Check.state(x), Check.state(Check.bath("bath 6 4;")));
        Check.load(x, "bath 3 3;boat 2 2 1 1;");
        x.turn(3);
        Check.load(x, "bath 10 10;drain 9 9 1 1;tap 8 8 1;boat 9 9 2 2;");
        Check.due("the state then",
                Check.state(x), Check.state(Check.bath("bath 10 10;drain 9 9 1 1;tap 8 8 1;boat 9 9 2 2;")));
        Check.due("boat 0", Check.boat(x, 0), "9 9 2 2 0 0 0 0 -1 0 0");
        Check.due("drain 0", Check.drain(x, 0), "9 9 1 1 0 0");
        Check.noElement("ended(0, 0)", x, () -> x.ended(0, 0));
    }

    private static void discards() {
        Check.sentence("promise 3", "the undo history and the snapshot are discarded");
        BathBoats x = Check.bath("bath 5 5;");
        for (int i = 0; i < 12; i++) {
            x.setLevel(i);
        }
        x.saveSnapshot();
        Check.due("load", Check.load(x, "bath 5 5 level 77;"), 0);
        Check.due("undoCount()", x.undoCount(), 0);
        Check.due("undo()", x.undo(), -1);
        Check.due("restoreSnapshot()", x.restoreSnapshot(), false);
        Check.due("the LEVEL", x.size(9), 77);
        x.setLevel(1);
        Check.due("undo() of an operation since", x.undo(), 0);
        Check.due("the LEVEL", x.size(9), 77);
        Check.due("undo() once more", x.undo(), -1);
    }

    private static void emptyAfterwards() {
        Check.sentence("promise 3", "The buffer is empty afterwards, also after an error.");
        String[] texts = {"bath 5 5;", "bath 5 5;x", "", "bath 99 5;"};
        int[] answers = {0, -11, -11, -12};
        for (int i = 0; i < texts.length; i++) {
            BathBoats x = new BathBoats();
            Check.feed(x, texts[i] + "                                                 ");
            Check.due("load of \"" + texts[i] + "\"", x.load(texts[i].length()), answers[i]);
            Check.badArgument("load(1) then", x, () -> x.load(1));
            Check.badArgument("query(1) then", x, () -> x.query(1));
            Check.due("feed then", feedSpaces(x), 20);
        }
    }

    private static void errorChangesOnlyTheBuffer() {
        Check.sentence("promise 3", "(then only the buffer and the error position change)");
        String[] texts = {"bath 3 3;drain 0 0 1 1;boat 1 1 9 9;soap 2 2 2", "bath 9 9 level 1 push 9 wind 9 9;soap 8 8 100;",
            "bath 9 9;tap 0 0 1;tap 1 0 1;tap 2 0 1;tap 3 0 1;tap 4 0 1;tap 5 0 1;", "bath 7 7;boat 1 2 1 1;boat 1 2 1 1;"};
        for (int code = 1; code <= 4; code++) {
            BathBoats x = Check.bath("bath 6 4 level 90;boat 0 0 5 9;boat 2 2 9 1;boat 1 1 9 99;soap 5 3 99;");
            x.turn(3);
            x.saveSnapshot();
            String saved = Check.state(x);
            x.setPush(5);
            String before = Check.state(x);
            x.setLevel(3);
            x.format(1);
            String state = Check.state(x);
            Check.due("load with an error", Check.load(x, texts[code - 1]), -10 - code);
            Check.due("the state after code " + code, Check.state(x), state);
            Check.due("undoCount()", x.undoCount(), 3);
            Check.due("formattedByte(1)", x.formattedByte(1), (int) 'c');
            Check.due("formattedByte(6)", x.formattedByte(6), -1);
            Check.due("undo()", x.undo(), 2);
            Check.due("the state after undo", Check.state(x), before);
            Check.due("restoreSnapshot()", x.restoreSnapshot(), true);
            Check.due("the state after restoreSnapshot", Check.state(x), saved);
        }
    }

    private static void loadLengths() {
        Check.sentence("promise 3", "if length is negative or greater than the number of bytes in the buffer "
                + "(nothing changes)");
        BathBoats x = new BathBoats();
        Check.due("bytes fed", Check.feed(x, "bath 5 5;soap 1 1 1;soap 2 2 2;         "), 40);
        Check.badArgument("load(-1)", x, () -> x.load(-1));
        Check.badArgument("load(41)", x, () -> x.load(41));
        for (int length : Check.FAR_NUMBERS) {
            Check.badArgument("load(" + length + ")", x, () -> x.load(length));
        }
        Check.due("load of all", x.load(40), 0);
        Check.due("the soap", x.size(12), 3);
        Check.badArgument("load(1) of no bytes", x, () -> x.load(1));
        Check.badArgument("load(-1) of no bytes", x, () -> x.load(-1));
        Check.due("load(0) of no bytes", x.load(0), -11);
        Check.due("its position", x.errorPosition(), 0);
    }

    private static void positions() {
        Check.sentence("promise 4", "NONE if that call had no error, or there was no such call.");
        BathBoats x = new BathBoats();
        Check.due("before any call", x.errorPosition(), -1);
        Check.badArgument("load(1)", x, () -> x.load(1));
        Check.due("after a load that read nothing", x.errorPosition(), -1);
        Check.load(x, "?bath");
        Check.due("after an error in the first byte", x.errorPosition(), 0);
        Check.query(x, "many 1 = 1");
        Check.due("after a query without error", x.errorPosition(), -1);
        Check.query(x, "many 1 = 1 ?");
        Check.due("after a query with an error", x.errorPosition(), 11);
        Check.badArgument("query(201)", x, () -> x.query(201));
        Check.badArgument("load(-1)", x, () -> x.load(-1));
        Check.due("after calls that read nothing", x.errorPosition(), 11);
        Check.load(x, "bath 5 5;");
        Check.due("after a load without error", x.errorPosition(), -1);
    }

    private static void formattedRow() {
        Check.sentence("promise 44", "if there is no such row");
        BathBoats x = Check.bath("bath 10 3;soap 9 2 1;");
        Check.due("row 0", Check.row(x, 0), "..........");
        Check.due("row 2", Check.row(x, 2), ".........*");
        for (int y : new int[] {-1, 3, 9, 10, Integer.MAX_VALUE, Integer.MIN_VALUE}) {
            Check.noElement("format(" + y + ")", x, () -> x.format(y));
        }
        Check.due("the text is that of row 2 still", x.formattedByte(9), (int) '*');
        Check.sentence("promise 44", "Returns the number of bytes of the text.");
        Check.due("format(0) of 10 columns", x.format(0), 10);
        Check.due("format(2) of 3 columns", Check.bath("bath 3 10;").format(2), 3);
        Check.due("format(9) of 10 rows", Check.bath("bath 3 10;").format(9), 3);
        Check.sentence("promise 44", "the first of these that applies");
        String sources = "bath 6 3;drain 0 0 5 1;drain 1 0 5 0;drain 2 0 5 0;tap 3 0 0;tap 4 0 9;soap 0 0 9;soap 1 0 9;soap 3 0 9;";
        Check.due("without boats", Check.row(Check.bath(sources), 0), "Ooo++.");
        Check.due("boats first", Check.row(Check.bath(sources + "boat 0 0 6 9;boat 2 0 5 9;boat 3 0 1 9;boat 5 0 1 9;"), 0),
                "aobc+d");
        BathBoats sunk = Check.bath("bath 3 3;boat 0 0 1 1;boat 1 0 1 1;soap 0 0 1;");
        sunk.turn(2);
        Check.due("sunk boats do not count", Check.row(sunk, 0), "*..");
    }

    private static void formattedBytes() {
        Check.sentence("promise 45", "NONE if index is out of range or there was no such call.");
        BathBoats x = Check.bath("bath 4 3;boat 3 0 1 9;");
        for (int i : new int[] {0, 3, -1, 4}) {
            Check.due("formattedByte(" + i + ") before format", x.formattedByte(i), -1);
        }
        Check.noElement("format(3)", x, () -> x.format(3));
        Check.due("formattedByte(0) after a refused format", x.formattedByte(0), -1);
        x.format(0);
        Check.due("formattedByte(0)", x.formattedByte(0), (int) '.');
        Check.due("formattedByte(3)", x.formattedByte(3), (int) 'a');
        Check.due("formattedByte(-1)", x.formattedByte(-1), -1);
        Check.due("formattedByte(4)", x.formattedByte(4), -1);
        for (int i : Check.FAR_NUMBERS) {
            Check.due("formattedByte(" + i + ")", x.formattedByte(i), -1);
        }
        Check.sentence("promise 45", "as it was then (also after load, undo and restoreSnapshot)");
        x.saveSnapshot();
        x.carry(0, 0, 0);
        Check.due("after an operation", x.formattedByte(3), (int) 'a');
        x.format(0);
        x.undo();
        Check.due("after undo", x.formattedByte(0), (int) 'a');
        x.restoreSnapshot();
        Check.due("after restoreSnapshot", x.formattedByte(0), (int) 'a');
        Check.load(x, "bath 10 10;");
        Check.due("after load", x.formattedByte(0), (int) 'a');
        Check.due("behind it after load", x.formattedByte(4), -1);
        Check.load(x, "bath 10 ");
        Check.due("after a load with an error", x.formattedByte(3), (int) '.');
        Check.noElement("format(10)", x, () -> x.format(10));
        Check.due("after a refused format", x.formattedByte(0), (int) 'a');
    }
}
