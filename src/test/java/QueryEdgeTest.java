/** Promise 50 with "Queries": each sentence that names a boundary, with a test of its own. */
public final class QueryEdgeTest {
    private static final String TWELVE = "bath 6 6;boat 0 0 1 9;boat 1 0 2 9;boat 2 0 3 9;boat 3 0 4 9;boat 4 0 5 9;"
            + "boat 5 0 6 9;boat 0 1 7 9;boat 1 1 8 9;boat 2 1 9 9;boat 3 1 10 9;boat 4 1 11 9;boat 5 1 12 9;";

    public static void main(String[] args) {
        lengths();
        emptyAfterwards();
        changesNothing();
        answers();
        everyBoat();
        numbers();
        comparisons();
        greatestValues();
        bytes();
        openSix();
        openUntilTheEnd();
        precedence();
        cutQueries();
        notAllowed();
        smallestCode();
        results();
        Check.end();
    }

    private static String spaces(int count) {
        StringBuilder text = new StringBuilder();
        for (int i = 0; i < count; i++) {
            text.append(' ');
        }
        return text.toString();
    }

    private static void fails(String text, int code, int position) {
        BathBoats x = Check.bath(TWELVE);
        Check.due("query \"" + text + "\"", Check.query(x, text), -1000000000 - code);
        Check.due("the position in \"" + text + "\"", x.errorPosition(), position);
    }

    private static void due(String text, int answer) {
        due(Check.bath(TWELVE), text, answer);
    }

    private static void due(BathBoats x, String text, int answer) {
        Check.due("query \"" + text + "\"", Check.query(x, text), answer);
        Check.due("the position in \"" + text + "\"", x.errorPosition(), -1);
    }

    private static void lengths() {
        Check.sentence("promise 50", "if length is negative, greater than 200, or greater than the number of bytes "
                + "in the buffer (nothing changes)");
        BathBoats x = Check.bath(TWELVE);
        String text = "many boat < 7" + spaces(240 - 13);
        Check.feed(x, text);
        for (int length : new int[] {-1, 201, 239, 240, 241, Integer.MAX_VALUE, Integer.MIN_VALUE}) {
            Check.badArgument("query(" + length + ") of 240 bytes", x, () -> x.query(length));
        }
        Check.due("query(200) of 240 bytes", x.query(200), 7);
        Check.feed(x, text.substring(0, 180));
        Check.badArgument("query(181) of 180 bytes", x, () -> x.query(181));
        Check.badArgument("query(200) of 180 bytes", x, () -> x.query(200));
        Check.due("query(180) of 180 bytes", x.query(180), 7);
        Check.badArgument("query(1) of no bytes", x, () -> x.query(1));
        Check.due("query(0) of no bytes", x.query(0), -1000000001);
        Check.feed(x, text);
        Check.due("query(13) of 240 bytes", x.query(13), 7);
        Check.feed(x, text);
        Check.due("query(12) of 240 bytes", x.query(12), -1000000001);
        Check.due("its position", x.errorPosition(), 12);
        String last = "many boat < 7 and" + spaces(200 - 17 - 5) + "x = 0";
        due(x, last, 2);
        Check.feed(x, last.replace("and ", "and  "));
        Check.due("query(200) of a text that has one byte more", x.query(200), -1000000001);
        Check.due("its position", x.errorPosition(), 200);
    }

    private static void emptyAfterwards() {
        Check.sentence("promise 50", "The buffer is empty afterwards, also after an error.");
        BathBoats x = Check.bath(TWELVE);
        for (String text : new String[] {"many 1 = 1", "many 1 = 1 ?", "", "first 1 = 2"}) {
            Check.feed(x, text + spaces(50));
            x.query(text.length());
            Check.badArgument("query(1) after \"" + text + "\"", x, () -> x.query(1));
            Check.badArgument("load(1) after \"" + text + "\"", x, () -> x.load(1));
            Check.due("feed after \"" + text + "\"", x.feed(0, 0, 0, 0, 0), 20);
            x.query(0);
        }
    }

    private static void changesNothing() {
        Check.sentence("promise 50", "Reads the first bytes of the buffer as a query and evaluates it");
        BathBoats x = Check.bath(TWELVE);
        x.setLevel(77);
        x.saveSnapshot();
        x.setLevel(88);
        x.format(0);
        String state = Check.state(x);
        Check.query(x, "many x = 1");
        Check.query(x, "many x = 1?");
        Check.due("the state", Check.state(x), state);
        Check.due("undoCount()", x.undoCount(), 2);
        Check.due("formattedByte(0)", x.formattedByte(0), (int) 'a');
        x.undo();
        Check.due("the LEVEL after undo", x.size(9), 77);
        x.undo();
        Check.due("restoreSnapshot()", x.restoreSnapshot(), true);
        Check.due("the LEVEL after restoreSnapshot", x.size(9), 77);
    }

    private static void answers() {
        Check.sentence("promise 50", "Returns for 'many' the number of boats for which the test holds; for 'first' the "
                + "smallest such boat, or NONE");
        due("many 0 = 0", 12);
        due("many 0 = 1", 0);
        due("many boat = 11", 1);
        due("first 0 = 0", 0);
        due("first 0 = 1", -1);
        due("first boat = 11", 11);
        due("first boat > 10", 11);
        due("first boat > 11", -1);
        due("first not boat < 11", 11);
        BathBoats none = new BathBoats();
        due(none, "many 0 = 0", 0);
        due(none, "first 0 = 0", -1);
        due(none, "many not 0 = 1", 0);
        due(none, "first not 0 = 1", -1);
    }

    private static void everyBoat() {
        Check.sentence("promise 50", "evaluates it for every boat in ascending order");
        BathBoats x = Check.bath("bath 5 5 level 0;drain 4 4 9 1;boat 0 0 1 1;boat 4 4 9 9;boat 2 3 5 99;soap 1 1 1;");
        x.turn(2);
        x.dropSoap(0, 0, 40);
        x.dropSoap(4, 4, 50);
        due(x, "many 0 = 0", 3);
        due(x, "first state = 0", 2);
        due(x, "first state = 1", 0);
        due(x, "first state = 2", 1);
        due(x, "many state < 3", 3);
        due(x, "first soap = 40", 0);
        due(x, "first soap = 50", 1);
        due(x, "first soap = 0", 2);
        due(x, "first x = 4", 1);
        due(x, "first y = 4", 1);
        due(x, "first y = 3", 2);
        due(x, "first x = 3", -1);
        due(x, "many wet = 2", 2);
        due(x, "first wet = 1", 1);
    }

    private static void numbers() {
        Check.sentence("Queries", "a number (0 to 9999)");
        due("many 9999 = 9999", 12);
        due("many 0 < 9999", 12);
        due("many 00000000000000000009999 > 0000009998", 12);
        due("many 9998 > 9999", 0);
        due("many boat > 0", 11);
        due("many 0 > boat", 0);
        for (String n : new String[] {"10000", "0010000", "65536", "4294967296", "4294967297", "18446744073709551616",
            "99999999999999999999999999999999999999999999999999"}) {
            fails("many " + n + " = 1", 2, 5);
            fails("many 1 = " + n, 2, 9);
            fails("many x = 1 and (y < " + n, 2, 20);
        }
        fails("many -1 = 1", 1, 5);
        fails("many 1 = -1", 1, 9);
    }

    private static void comparisons() {
        Check.sentence("Queries", "value ('<' | '=' | '>') value");
        due("many 5 < 6", 12);
        due("many 6 < 6", 0);
        due("many 7 < 6", 0);
        due("many 5 > 6", 0);
        due("many 6 > 6", 0);
        due("many 7 > 6", 12);
        due("many 5 = 6", 0);
        due("many 6 = 6", 12);
        due("many 7 = 6", 0);
        due("many boat < weight", 12);
        due("many weight > boat", 12);
        due("many boat = weight", 0);
        due("many x = x", 12);
        due("many x < x", 0);
        due("many weight < strength", 8);
        due("first weight = strength", 8);
        due("many weight > strength", 3);
    }

    private static void greatestValues() {
        Check.sentence("Queries", "one of these properties of a boat");
        BathBoats x = Check.bath("bath 10 10 level 0;boat 0 0 1 999 wet 999;boat 9 9 99 999;soap 9 9 99;soap 0 0 1;");
        due(x, "first wet = 999", 0);
        due(x, "first wet = 0", 1);
        due(x, "many strength = 999", 2);
        due(x, "many strength > 998", 2);
        due(x, "many strength > 999", 0);
        due(x, "first weight = 99", 1);
        due(x, "first x = 9", 1);
        due(x, "first y > 8", 1);
        due(x, "first soap = 99", 1);
        due(x, "first soap > 0", 0);
        x.setLevel(1000);
        x.setPush(0);
        x.blow(1, -300, 0);
        x.turn(3);
        due(x, "first moves = 3", 1);
        due(x, "first moves > 3", -1);
        due(x, "first wet > 999", 0);
        x.carry(1, 5, 5);
        x.addBoat(6, 5, 99, 99);
        x.blow(1, 150, 0);
        x.turn(1);
        due(x, "first hits = 1", 1);
        due(x, "first hits > 1", -1);
        due(x, "many hits = 0", 2);
    }

    private static void bytes() {
        Check.sentence("Queries", "each of the bytes ( ) < = > is a token, too");
        for (int b = 0; b < 256; b++) {
            String sign = String.valueOf((char) b);
            if (b == ' ' || b == '\n') {
                due("many" + sign + "boat" + sign + "<" + sign + "7" + sign, 7);
            } else if (b < '0' || b > '9') {
                fails("many boat < 7" + sign, 1, 13);
                fails("many boat < 7 " + sign, 1, 14);
            }
            if ("<=>".indexOf(b) >= 0) {
                due("many 7" + sign + "7", b == '=' ? 12 : 0);
            } else if (b != ' ' && b != '\n' && (b < '0' || b > '9')) {
                fails("many 7" + sign + "7", 1, 6);
            }
        }
        due("many(boat<7)and(boat>5)or(x=1)", 3);
    }

    private static void openSix() {
        Check.sentence("Queries", "3 for a 'not' or '(' that would be the seventh one open at the same time");
        for (int form = 0; form < 64; form++) {
            String opened = "many ";
            String closed = "";
            int nots = 0;
            for (int i = 0; i < 6; i++) {
                boolean not = (form >> i & 1) == 1;
                opened += not ? "not " : "(";
                closed += not ? "" : ")";
                nots += not ? 1 : 0;
            }
            due(opened + "boat < 7" + closed, nots % 2 == 0 ? 7 : 5);
            fails(opened + "not boat < 7" + closed, 3, opened.length());
            fails(opened + "(boat < 7)" + closed, 3, opened.length());
            fails(opened + "(", 3, opened.length());
            fails(opened + "not", 3, opened.length());
        }
        fails("many ((((((( ?", 3, 11);
        fails("many ((((((boat = 1 or (", 3, 23);
        fails("many ((((((boat = 1 and not", 3, 24);
        fails("many not ((((( boat = 1 or not boat = 2", 3, 27);
    }

    private static void openUntilTheEnd() {
        Check.sentence("Queries", "A 'not' is open until the end of its factor.");
        String six = "not not not not not not boat < 3";
        due("many " + six + " and " + six + " or " + six, 3);
        due("many (((((not boat < 3 and not boat > 5 and not boat = 4)))))", 2);
        due("many not (boat < 3) and ((((((boat < 5))))))", 2);
        due("many ((((((boat < 3)))))) or ((((((boat > 8))))))", 6);
        due("many (((((not boat < 3) or not boat > 3))))", 12);
        fails("many not (not (not (boat < 3 and not boat = 4)))", 3, 33);
        due("many not (not (not boat < 3 and not boat = 4))", 8);
        due("many not not not (not (boat < 3) and not boat = 4)", 4);
        due("many ((((((boat < 3))) and (((boat < 2)))))) and boat < 1", 1);
        fails("many ((((((boat < 3))) and ((((boat < 2)))))", 3, 30);
    }

    private static void precedence() {
        Check.sentence("Queries", "test: conjunction ('or' conjunction)*. conjunction: factor ('and' factor)*.");
        due("many boat = 0 or boat = 1 and boat = 2", 1);
        due("many boat = 0 and boat = 1 or boat = 2", 1);
        due("many (boat = 0 or boat = 1) and boat = 1", 1);
        due("many not boat = 0 or boat = 0", 12);
        due("many not (boat = 0 or boat = 1)", 10);
        due("many not boat = 0 and not boat = 1", 10);
        due("many boat=0 or boat=1 or boat=2 or boat=3 or boat=4 or boat=5 or boat=6 or boat=7 or boat=8 or boat=9", 10);
        due("many boat>0 and boat>1 and boat>2 and boat>3 and boat>4 and boat>5 and boat>6 and boat>7 and boat>8", 3);
    }

    private static final String[] WHOLE = {"first", "not", "(", "boat", "<", "5", "or", "9", "=", "y", ")", "and",
        "weight", ">", "3"};

    private static void cutQueries() {
        Check.sentence("Input text", "the text ends too early (the position is then the length of the text)");
        String text = "";
        for (String token : WHOLE) {
            for (String end : new String[] {"", " ", "\n  \n"}) {
                // 11 tokens are a whole query already
                if (!text.endsWith(")")) {
                    fails(text + end, 1, text.length() + end.length());
                } else {
                    due(text + end, 5);
                }
            }
            text += (text.isEmpty() ? "" : " ") + token;
        }
        due(text, 5);
        BathBoats x = Check.bath(TWELVE);
        Check.feed(x, "many 1 = 1234567");
        Check.due("a query that ends within a number", x.query(10), 12);
        Check.feed(x, "many 1 < 12345");
        Check.due("a query whose end cuts a number that is out of range", x.query(13), 12);
    }

    private static void notAllowed() {
        Check.sentence("Input text", "1 The token is invalid or not allowed here");
        String[] strange = {"?", ";", "-", "many", "first", "or", "and", ")", "=", "<", "level", "tap", "X", "boats", "\u00e9"};
        String text = "";
        for (int i = 0; i < WHOLE.length; i++) {
            for (String token : strange) {
                if (!fits(i, token)) {
                    fails(text + " " + token, 1, text.length() + 1);
                }
            }
            text += (text.isEmpty() ? "" : " ") + WHOLE[i];
        }
        fails("many x = 1 2", 1, 11);
        fails("many x = 1 many x = 1", 1, 11);
        fails("many x = y = 1", 1, 11);
        fails("many () = 1", 1, 6);
        fails("many (x) = 1", 1, 7);
        fails("many x not = 1", 1, 7);
        fails("many x = not 1", 1, 9);
        fails("many x = (1)", 1, 9);
        fails("many x = 1)", 1, 10);
        fails("many (x = 1))", 1, 12);
    }

    private static boolean fits(int i, String token) {
        String due = WHOLE[i];
        boolean logic = due.equals("or") || due.equals("and") || due.equals(")");
        boolean comparison = due.equals("=") || due.equals("<") || due.equals(">");
        return i == 0 && (token.equals("many") || token.equals("first"))
                || logic && (token.equals("or") || token.equals("and") || token.equals(")") && i < 11)
                || comparison && (token.equals("=") || token.equals("<"));
    }

    private static void smallestCode() {
        Check.sentence("Input text", "if several codes apply to one token, the smallest one");
        fails("10000", 1, 0);
        fails("many x 10000", 1, 7);
        fails("many x = 1 10000", 1, 11);
        fails("many ((((((x not", 1, 13);
        fails("many ((((((x = (", 1, 15);
        fails("many ((((((x = 1 (", 1, 17);
        Check.sentence("Input text", "The first error along the text is reported, at the first byte of its token");
        fails("many 10000 = 10001 ?", 2, 5);
        fails("many 1 ? 10001", 1, 7);
        fails("many (((((((10000", 3, 11);
        fails("many 10000 = (((((((", 2, 5);
        fails("man 10000 = (((((((", 1, 0);
    }

    private static void results() {
        Check.sentence("promise 50", "HIDDEN minus the error code if the text has an error");
        BathBoats x = Check.bath(TWELVE);
        Check.due("code 1", Check.query(x, "many"), -1000000001);
        Check.due("code 2", Check.query(x, "many 10000 = 1"), -1000000002);
        Check.due("code 3", Check.query(x, "many ((((((("), -1000000003);
        Check.due("HIDDEN", BathBoats.HIDDEN, -1000000000);
    }
}
