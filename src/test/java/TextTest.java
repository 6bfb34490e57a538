import java.util.Arrays;

/** Promises 1 to 4, 50, and 44 to 45: the buffer, the texts and their errors. */
public final class TextTest {
    public static void main(String[] args) {
        newObject();
        feed();
        load();
        loadErrors();
        errorPosition();
        format();
        formattedByte();
        query();
        queryErrors();
        Check.end();
    }

    private static void newObject() {
        Check.part("promise 1, a new object");
        BathBoats x = new BathBoats();
        int[] sizes = {5, 5, 0, 0, 0, 0, 0, 0, 0, 500, 1, 0, 0, 0, 0};
        for (int what = 0; what < sizes.length; what++) {
            Check.due("size(" + what + ")", x.size(what), sizes[what]);
        }
        Check.due("state", Check.state(x), Check.state(Check.bath("bath 5 5;")));
        Check.due("errorPosition()", x.errorPosition(), -1);
        Check.due("formattedByte(0)", x.formattedByte(0), -1);
        Check.due("undoCount()", x.undoCount(), 0);
        Check.due("undo()", x.undo(), -1);
        Check.due("restoreSnapshot()", x.restoreSnapshot(), false);
        Check.badArgument("load(1) of an empty buffer", x, () -> x.load(1));
        Check.due("NONE", BathBoats.NONE, -1);
        Check.due("HIDDEN", BathBoats.HIDDEN, -1000000000);
    }

    private static void feed() {
        Check.part("promise 2, feed");
        BathBoats x = new BathBoats();
        for (int i = 1; i <= 35; i++) {
            Check.due("feed no " + i, x.feed(0x20202020, 0x20202020, 0x20202020, 0x20202020, 0x20202020), 20 * i);
        }
        Check.due("feed no 36", x.feed(0, 0, 0, 0, 0), -1);
        Check.badArgument("load(701)", x, () -> x.load(701));
        Check.due("load(700)", x.load(700), -11);
        Check.due("errorPosition()", x.errorPosition(), 700);
        Check.due("feed after", x.feed(0x62617468, 0x20332034, 0x3b000000, 0x80ffffff, -1), 20);
        Check.due("load of the first bytes", x.load(9), 0);
        Check.due("W", x.size(0), 3);
        Check.due("H", x.size(1), 4);
        x.feed(0x62617468, 0x20332034, 0x3bff2020, 0, 0);
        Check.due("load of a byte 255", x.load(10), -11);
        Check.due("its position", x.errorPosition(), 9);
        x.feed(0x62617468, 0x20332034, 0x3b202080, 0, 0);
        Check.due("load of a byte 128", x.load(12), -11);
        Check.due("its position", x.errorPosition(), 11);
    }

    private static void load() {
        Check.part("promise 3, load");
        BathBoats x = new BathBoats();
        Check.due("load", Check.load(x, "bath 4 6 level 0 push 0 wind -99 99;drain 3 5 99 0;tap 0 5 99;"
                + "boat 3 5 99 999 wet 999;soap 1 2 99;soap 1 2 7;boat 0 0 1 1;"), 2);
        Check.due("sizes", sizes(x), Arrays.asList(4, 6, 1, 1, 2, 2, 0, 0, 0, 0, 0, 0, 7, -99, 99));
        Check.due("boat 0", Check.boat(x, 0), "3 5 99 999 999 0 0 0 -1 0 0");
        Check.due("boat 1", Check.boat(x, 1), "0 0 1 1 0 0 0 0 -1 0 0");
        Check.due("drain 0", Check.drain(x, 0), "3 5 99 0 0 0");
        Check.due("tap 0", x.tap(0, 2), 99);
        x.saveSnapshot();
        x.setPush(3);
        x.turn(3);
        Check.due("load without separators", Check.load(x, "bath3 3level1000push9wind-0 00007;tap00 1 2;boat\n1 1 05 6wet0;"), 1);
        Check.due("sizes", sizes(x), Arrays.asList(3, 3, 0, 1, 1, 1, 0, 0, 0, 1000, 9, 0, 0, 0, 7));
        Check.due("boat 0", Check.boat(x, 0), "1 1 5 6 0 0 0 0 -1 0 0");
        Check.due("undo() after load", x.undo(), -1);
        Check.due("restoreSnapshot() after load", x.restoreSnapshot(), false);
        int length = Check.feed(x, "bath 5 5;");
        Check.badArgument("load(-1)", x, () -> x.load(-1));
        Check.badArgument("load(21)", x, () -> x.load(21));
        Check.badArgument("load(2147483647)", x, () -> x.load(Integer.MAX_VALUE));
        Check.badArgument("load(-2147483648)", x, () -> x.load(Integer.MIN_VALUE));
        Check.due("load after refused ones", x.load(length), 0);
        Check.badArgument("load(1) of the empty buffer", x, () -> x.load(1));
        x.saveSnapshot();
        x.setPush(3);
        String before = Check.state(x);
        Check.due("load with an error", Check.load(x, "bath 3 3;drain 1 1 1 1;boat 1 1 1 1;soap 9 9 9;"), -12);
        Check.due("the state", Check.state(x), before);
        Check.due("undoCount()", x.undoCount(), 1);
        Check.badArgument("load(1) after an error", x, () -> x.load(1));
        Check.due("restoreSnapshot() after an error", x.restoreSnapshot(), true);
        Check.feed(x, "bath 5 50;soap 1 1 1;");
        Check.due("load that ends within a number", x.load(8), -11);
        Check.due("its position", x.errorPosition(), 8);
        Check.feed(x, "bath 5 5 level 10000;");
        Check.due("load that ends within a great number", x.load(19), -11);
        Check.due("its position", x.errorPosition(), 19);
        Check.feed(x, "bath 5 5;soaps 1 1 1;");
        Check.due("load that ends within a word", x.load(13), -11);
        Check.due("its position", x.errorPosition(), 13);
        Check.due("load(0)", x.load(0), -11);
        Check.due("its position", x.errorPosition(), 0);
        Check.load(x, "bath 4 4 level 9 push 8 wind 7 6;soap 0 0 5;");
        Check.due("load of defaults", Check.load(x, "bath 10 3 ; "), 0);
        Check.due("sizes", sizes(x), Arrays.asList(10, 3, 0, 0, 0, 0, 0, 0, 0, 500, 1, 0, 0, 0, 0));
        String five = "bath 5 5;";
        for (int i = 0; i < 5; i++) {
            five += "drain " + i + " 0 1 1;tap " + i + " 1 1;";
        }
        for (int i = 0; i < 12; i++) {
            five += "boat " + i % 5 + " " + i / 5 + " 1 1;";
        }
        Check.due("load of all", Check.load(x, five), 12);
        Check.due("sizes", sizes(x), Arrays.asList(5, 5, 5, 5, 12, 12, 0, 0, 0, 500, 1, 5, 0, 0, 0));
    }

    private static java.util.List<Integer> sizes(BathBoats x) {
        java.util.List<Integer> list = new java.util.ArrayList<>();
        for (int what = 0; what <= 14; what++) {
            list.add(x.size(what));
        }
        return list;
    }

    private static void fails(String text, int code, int position) {
        BathBoats x = new BathBoats();
        Check.due("load of \"" + text + "\"", Check.load(x, text), -10 - code);
        Check.due("the position in \"" + text + "\"", x.errorPosition(), position);
    }

    private static void loadErrors() {
        Check.part("promise 3, errors");
        fails(" \n ", 1, 3);
        fails("Bath 5 5;", 1, 0);
        fails("bathe 5 5;", 1, 0);
        fails("bat 5 5;", 1, 0);
        fails("5 5;", 1, 0);
        fails("bath", 1, 4);
        fails("bath  ", 1, 6);
        fails("bath ; 5", 1, 5);
        fails("bath -5 5;", 1, 5);
        fails("bath 2 5;", 2, 5);
        fails("bath 11 5;", 2, 5);
        fails("bath 5 2;", 2, 7);
        fails("bath 5 011;", 2, 7);
        fails("bath 5 4294967301;", 2, 7);
        fails("bath 5 99999999999999999999999999999999;", 2, 7);
        fails("bath 5 5", 1, 8);
        fails("bath 5 5 5;", 1, 9);
        fails("bath 5 5 level;", 1, 14);
        fails("bath 5 5 level 1001;", 2, 15);
        fails("bath 5 5 level 5 level 5;", 1, 17);
        fails("bath 5 5 push 10;", 2, 14);
        fails("bath 5 5 push 1 level 5;", 1, 16);
        fails("bath 5 5 wind 1;", 1, 15);
        fails("bath 5 5 wind 100 1;", 2, 14);
        fails("bath 5 5 wind -100 1;", 2, 15);
        fails("bath 5 5 wind 1 -100;", 2, 17);
        fails("bath 5 5 wind --1 1;", 1, 15);
        fails("bath 5 5 wind 1 1 push 1;", 1, 18);
        fails("bath 5 5;;", 1, 9);
        fails("bath 5 5;ship 1 1 1 1;", 1, 9);
        fails("bath 5 5;7", 1, 9);
        fails("bath 5 5;drain", 1, 14);
        fails("bath 5 5;drain 5 1 1 1;", 2, 15);
        fails("bath 5 5;drain 1 5 1 1;", 2, 17);
        fails("bath 5 5;drain 1 1 0 1;", 2, 19);
        fails("bath 5 5;drain 1 1 100 1;", 2, 19);
        fails("bath 5 5;drain 1 1 1 100;", 2, 21);
        fails("bath 5 5;drain 1 1 1;", 1, 20);
        fails("bath 5 5;drain 1 1 1 1", 1, 22);
        fails("bath 5 5;drain 1 1 1 1 1;", 1, 23);
        fails("bath 5 5;tap 1 1 100;", 2, 17);
        fails("bath 5 5;tap 1 1 1 1;", 1, 19);
        fails("bath 4 5;tap 4 1 1;", 2, 13);
        fails("bath 5 4;tap 1 4 1;", 2, 15);
        fails("bath 5 5;boat 5 1 1 1;", 2, 14);
        fails("bath 5 5;boat 1 5 1 1;", 2, 16);
        fails("bath 5 5;boat 1 1 0 1;", 2, 18);
        fails("bath 5 5;boat 1 1 100 1;", 2, 18);
        fails("bath 5 5;boat 1 1 1 0;", 2, 20);
        fails("bath 5 5;boat 1 1 1 1000;", 2, 20);
        fails("bath 5 5;boat 1 1 1 9 wet 10;", 2, 26);
        fails("bath 5 5;boat 1 1 1 9 wet;", 1, 25);
        fails("bath 5 5;boat 1 1 1 9 5;", 1, 22);
        fails("bath 5 5;boat 1 1 1 9 wets 5;", 1, 22);
        fails("bath 5 5;soap 5 1 1;", 2, 14);
        fails("bath 5 5;soap 1 5 1;", 2, 16);
        fails("bath 5 5;soap 1 1 0;", 2, 18);
        fails("bath 5 5;soap 1 1 100;", 2, 18);
        fails("bath 5 5;soap 1 1 1", 1, 19);
        fails("bath 5 5;\tsoap 1 1 1;", 1, 9);
        fails("bath 5 5;soap 1 1 1(;", 1, 19);
        fails("bath 5 5;drain 1 2 1 1;drain 1 2 1 0;", 4, 31);
        fails("bath 5 5;drain 1 2 1 0;tap 1 2 0;", 4, 29);
        fails("bath 5 5;tap 1 2 1;drain 1 2 1 1;", 4, 27);
        fails("bath 5 5;tap 1 2 0;tap 1 2 99;", 4, 25);
        fails("bath 5 5;boat 1 2 1 1;boat 1 2 0 1;", 4, 29);
        fails("bath 5 5;boat 1 2 1 1;boat 1 7 0 1;", 2, 29);
        String five = "bath 9 5;";
        for (int i = 0; i < 5; i++) {
            five += "drain " + i + " 0 1 1;tap " + i + " 1 1;";
        }
        fails(five + "drain", 3, five.length());
        fails(five + "  tap 8 8 8;", 3, five.length() + 2);
        fails(five + "drained", 1, five.length());
        String twelve = "bath 10 5;";
        for (int i = 0; i < 12; i++) {
            twelve += "boat " + i % 10 + " " + i / 10 + " 1 1;";
        }
        fails(twelve + "boat A", 3, twelve.length());
    }

    private static void errorPosition() {
        Check.part("promise 4, errorPosition");
        BathBoats x = new BathBoats();
        Check.load(x, "bath 5 5;x");
        Check.due("after an error", x.errorPosition(), 9);
        Check.badArgument("a load that reads nothing", x, () -> x.load(1));
        Check.badArgument("a query that reads nothing", x, () -> x.query(-1));
        Check.due("then", x.errorPosition(), 9);
        x.setPush(2);
        x.undo();
        x.saveSnapshot();
        x.restoreSnapshot();
        Check.due("after undo and restoreSnapshot", x.errorPosition(), 9);
        Check.query(x, "many x < ");
        Check.due("after a query with an error", x.errorPosition(), 9);
        Check.query(x, "many 1 = y");
        Check.due("after a query", x.errorPosition(), -1);
        Check.query(x, "none 1 = y");
        Check.due("after a query with an error", x.errorPosition(), 0);
        Check.load(x, "bath 5 5;");
        Check.due("after a load", x.errorPosition(), -1);
    }

    private static void format() {
        Check.part("promise 44, format");
        BathBoats x = Check.bath("bath 7 3;drain 0 0 5 5;drain 1 0 5 0;drain 2 0 5 5;drain 3 0 5 5;tap 4 0 0;"
                + "soap 4 0 1;soap 5 0 1;soap 0 0 9;soap 1 0 9;boat 3 0 5 9;boat 2 0 6 9;boat 0 1 1 1;boat 6 2 1 1;");
        Check.due("format(0)", x.format(0), 7);
        Check.due("row 0", Check.row(x, 0), "Ooba+*.");
        Check.due("row 1", Check.row(x, 1), "c......");
        Check.due("row 2", Check.row(x, 2), "......d");
        x.carry(0, 1, 0);
        x.carry(1, 6, 0);
        Check.due("row 0 then", Check.row(x, 0), "OaOO+*b");
        x.turn(2);
        Check.due("row 1 after boat 2 sank", Check.row(x, 1).charAt(0), '*');
        Check.noElement("format(-1)", x, () -> x.format(-1));
        Check.noElement("format(3)", x, () -> x.format(3));
        Check.due("letters", Check.row(Check.bath("bath 10 3;boat 0 0 1 1;boat 1 0 1 1;boat 2 0 1 1;boat 3 0 1 1;"
                + "boat 4 0 1 1;boat 5 0 1 1;boat 6 0 1 1;boat 7 0 1 1;boat 8 0 1 1;boat 9 1 1 1;boat 8 1 1 1;"
                + "boat 7 1 1 1;"), 1), ".......lkj");
    }

    private static void formattedByte() {
        Check.part("promise 45, formattedByte");
        BathBoats x = Check.bath("bath 4 3;boat 1 1 9 99;tap 3 1 0;");
        Check.due("before format", x.formattedByte(0), -1);
        x.format(1);
        int[] bytes = {'.', 'a', '.', '+'};
        x.carry(0, 0, 0);
        for (int i = 0; i < 4; i++) {
            Check.due("formattedByte(" + i + ")", x.formattedByte(i), bytes[i]);
        }
        Check.due("formattedByte(-1)", x.formattedByte(-1), -1);
        Check.due("formattedByte(4)", x.formattedByte(4), -1);
        Check.due("formattedByte(2147483647)", x.formattedByte(Integer.MAX_VALUE), -1);
        x.saveSnapshot();
        x.undo();
        x.restoreSnapshot();
        Check.noElement("format(7)", x, () -> x.format(7));
        Check.load(x, "bath 3 3;");
        for (int i = 0; i < 4; i++) {
            Check.due("formattedByte(" + i + ") after load", x.formattedByte(i), bytes[i]);
        }
        x.format(0);
        Check.due("a byte that only the longer text had", x.formattedByte(3), -1);
    }

    private static void query() {
        Check.part("promise 50, query");
        BathBoats x = Check.bath("bath 5 4 push 0;drain 4 3 50 10;boat 0 0 10 20 wet 3;boat 1 2 20 30;boat 3 3 5 2 wet 2;"
                + "boat 4 3 7 40;soap 1 2 25;soap 3 3 12;");
        x.turn(1);
        Object[][] cases = {
            {"many boat < 9", 4}, {"first boat > 1", 2}, {"first boat > 3", -1}, {"many 0 = 0", 4}, {"many 0 > 9999", 0},
            {"many x = 0", 1}, {"first x=4", 3}, {"first y = 2", 1}, {"many y = 3", 2}, {"first weight = 20", 1},
            {"many strength > 25", 2}, {"first wet = 4", 0}, {"first wet = 3", 1}, {"many state = 0", 2},
            {"first state = 1", 2}, {"first state = 2", 3}, {"first soap = 23", -1}, {"first soap = 21", 1},
            {"first soap = 9", 2}, {"many moves = 0", 4}, {"many hits = 0", 4}, {"many boat < weight", 4},
            {"many 00002 < boat", 1}, {"many not x = 0", 3}, {"many not not x = 0", 1},
            {"many x = 0 or x = 1 and y = 0", 1}, {"many (x = 0 or x = 1) and y = 0", 1},
            {"many y = 0 and x = 1 or x = 0", 1}, {"many not x = 0 and y = 3", 2}, {"many not (x = 0 or y = 3)", 1},
            {"many boat=0or boat=1or boat=2and boat=3", 2}, {"many boat = 0 and boat = 1 or boat = 2", 1},
            {"first boat = 3 or boat = 1", 1}, {"many ((((((x=0))))))", 1}, {"many not not not not not not x=0", 1},
            {"many (x=0)or(x=1)or(x=2)or(x=3)or(x=4)or(x=5)or(x=6)", 4},
            {"many not x=0 and not x=1 and not x=2 and not x=3 and not x=9 and not x=9 and not x=9", 1},
            {"many\nx<\n5", 4}, {"many boat<2 or boat>2", 3}};
        for (Object[] c : cases) {
            Check.due((String) c[0], Check.query(x, (String) c[0]), c[1]);
            Check.due("errorPosition() of " + c[0], x.errorPosition(), -1);
        }
        BathBoats moved = Check.bath("bath 5 3;boat 0 1 10 99;boat 2 1 10 99;");
        moved.blow(0, 300, 0);
        moved.turn(2);
        Check.due("moves", Check.query(moved, "first moves = 1"), 0);
        Check.due("hits", Check.query(moved, "first hits = 1"), 0);
        BathBoats none = new BathBoats();
        Check.due("many of none", Check.query(none, "many 0 = 0"), 0);
        Check.due("first of none", Check.query(none, "first not 0 = 1"), -1);
        lengths();
    }

    private static void lengths() {
        BathBoats x = Check.bath("bath 3 3;boat 0 0 1 1;");
        String text = "many 0 = 0";
        StringBuilder longText = new StringBuilder(text);
        while (longText.length() < 220) {
            longText.append(' ');
        }
        Check.feed(x, longText.toString());
        Check.badArgument("query(-1)", x, () -> x.query(-1));
        Check.badArgument("query(201)", x, () -> x.query(201));
        Check.badArgument("query(221)", x, () -> x.query(221));
        Check.due("query(200)", x.query(200), 1);
        Check.badArgument("query(1) of the empty buffer", x, () -> x.query(1));
        Check.feed(x, text);
        Check.badArgument("query(21)", x, () -> x.query(21));
        Check.due("query(9)", x.query(9), -1000000001);
        Check.due("its position", x.errorPosition(), 9);
        Check.badArgument("query(1) after an error", x, () -> x.query(1));
        Check.due("query(0)", x.query(0), -1000000001);
        Check.due("its position", x.errorPosition(), 0);
        Check.due("undoCount()", x.undoCount(), 0);
    }

    private static void queryFails(String text, int code, int position) {
        BathBoats x = Check.bath("bath 3 3;boat 0 0 1 1;");
        String before = Check.state(x);
        Check.due("query \"" + text + "\"", Check.query(x, text), BathBoats.HIDDEN - code);
        Check.due("the position in \"" + text + "\"", x.errorPosition(), position);
        Check.due("the state after \"" + text + "\"", Check.state(x), before);
    }

    private static void queryErrors() {
        Check.part("promise 50, errors");
        queryFails("all x = 1", 1, 0);
        queryFails("(many x = 1)", 1, 0);
        queryFails("many", 1, 4);
        queryFails("many first x = 1", 1, 5);
        queryFails("many x", 1, 6);
        queryFails("many x = ", 1, 9);
        queryFails("many x 1", 1, 7);
        queryFails("many x == 1", 1, 8);
        queryFails("many x <= 1", 1, 8);
        queryFails("many x - 1", 1, 7);
        queryFails("many = 1", 1, 5);
        queryFails("many x = -1", 1, 9);
        queryFails("many z = 1", 1, 5);
        queryFails("many drift = 1", 1, 5);
        queryFails("many x = level", 1, 9);
        queryFails("many x = 1 ;", 1, 11);
        queryFails("many x = 1 x = 1", 1, 11);
        queryFails("many x = 1 and", 1, 14);
        queryFails("many x = 1 or and", 1, 14);
        queryFails("many x = 1)", 1, 10);
        queryFails("many (x = 1", 1, 11);
        queryFails("many (x = 1 y", 1, 12);
        queryFails("many x(", 1, 6);
        queryFails("many not", 1, 8);
        queryFails("many X = 1", 1, 5);
        queryFails("many x ! 1", 1, 7);
        queryFails("many 10000 = 1", 2, 5);
        queryFails("many 1 = 99999999999999999999", 2, 9);
        queryFails("many 4294967296 = 1", 2, 5);
        queryFails("many (((((((x=1)))))))", 3, 11);
        queryFails("many not not not not not not not x=1", 3, 29);
        queryFails("many ((( not not not ( x=1", 3, 21);
        queryFails("many not (not (not (not x=1", 3, 20);
        queryFails("many x=1 and ((((((not x=1", 3, 19);
        queryFails("many ((((((x=1))))) and ((((((x=1", 3, 29);
    }
}
