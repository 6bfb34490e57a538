/** "Input text" and its error codes: each sentence that names a boundary, with a test of its own. */
public final class InputEdgeTest {
    private static final String SIZED = "bath 4 6;";

    private interface Ask {
        int of(BathBoats x);
    }

    public static void main(String[] args) {
        words();
        numbers();
        signs();
        separators();
        sizeOfBath();
        levelPushWind();
        defaults();
        order();
        drains();
        taps();
        boats();
        wetness();
        soaps();
        soapReplaced();
        cutTexts();
        cutTokens();
        notAllowed();
        tooMany();
        allAtMost();
        takenByDrainOrTap();
        takenByBoat();
        notTaken();
        firstError();
        smallestCode();
        Check.end();
    }

    private static void fails(String text, int code, int position) {
        BathBoats x = new BathBoats();
        Check.due("load of \"" + text + "\"", Check.load(x, text), -10 - code);
        Check.due("the position in \"" + text + "\"", x.errorPosition(), position);
    }

    private static BathBoats reads(String text, int boats) {
        BathBoats x = new BathBoats();
        Check.due("load of \"" + text + "\"", Check.load(x, text), boats);
        Check.due("the position in \"" + text + "\"", x.errorPosition(), -1);
        return x;
    }

    /** The least and the greatest number are read, the ones beside them are not, nor greater ones that wrap around. */
    private static void range(String before, int least, int most, String after, Ask ask) {
        for (int n : new int[] {least, most}) {
            for (String zeros : new String[] {"", "0", "000000000000"}) {
                BathBoats x = new BathBoats();
                String text = before + zeros + n + after;
                Check.due("load of \"" + text + "\" has an error", Check.load(x, text) < 0, false);
                Check.due("the number in \"" + text + "\"", ask.of(x), n);
            }
        }
        int wrong = before.length();
        if (least > 0) {
            fails(before + (least - 1) + after, 2, wrong);
            fails(before + "000" + after, 2, wrong);
        } else if (!before.endsWith("-") && !before.contains("wind")) {
            fails(before + "-1" + after, 1, wrong);
        }
        fails(before + (most + 1) + after, 2, wrong);
        fails(before + "00" + (most + 1) + after, 2, wrong);
        // these wrap around to numbers in range in 8, 16, 32 and 64 bits
        fails(before + (most + (1L << 16)) + after, 2, wrong);
        fails(before + (most + (1L << 32)) + after, 2, wrong);
        fails(before + java.math.BigInteger.ONE.shiftLeft(64).add(java.math.BigInteger.valueOf(most)) + after, 2, wrong);
        fails(before + "99999999999999999999999999999999999999999999999999999999999999999999" + after, 2, wrong);
    }

    private static void words() {
        Check.sentence("Input text", "a word is a maximal run of the letters a to z");
        fails("bath 5 5;`", 1, 9);
        fails("bath 5 5;{", 1, 9);
        fails("bath 5 5;soap`1 1 1;", 1, 13);
        fails("bath 5 5;soap{1 1 1;", 1, 13);
        fails("bath 5 5;soapa 1 1 1;", 1, 9);
        fails("bath 5 5;soapz 1 1 1;", 1, 9);
        fails("bath 5 5;asoap 1 1 1;", 1, 9);
        fails("bath 5 5;soa 1 1 1;", 1, 9);
        fails("bath 5 5;so ap 1 1 1;", 1, 9);
        fails("bath 5 5;Soap 1 1 1;", 1, 9);
        fails("bath 5 5;soaP 1 1 1;", 1, 9);
        fails("bath 5 5levelpush 1;", 1, 8);
        reads("bath5 5level1push1wind1 1;soap1 1 1;boat1 1 1 1wet1;tap1 1 1;drain2 2 2 2;", 1);
    }

    private static void numbers() {
        Check.sentence("Input text", "a number is a maximal run of digits (leading zeros are allowed)");
        fails("bath 5 5/", 1, 8);
        fails("bath 5 5:", 1, 8);
        fails("bath /5 5;", 1, 5);
        fails("bath :5 5;", 1, 5);
        fails("bath 55;", 2, 5);
        fails("bath 1 0 5;", 2, 5);
        StringBuilder zeros = new StringBuilder("bath ");
        for (int i = 0; i < 600; i++) {
            zeros.append('0');
        }
        Check.due("W after 600 zeros", reads(zeros + "3 0000000004;", 0).size(0), 3);
        fails(zeros + " 5;", 2, 5);
        fails(zeros + "11 5;", 2, 5);
        StringBuilder nines = new StringBuilder("bath 5 5 level ");
        for (int i = 0; i < 600; i++) {
            nines.append('9');
        }
        fails(nines + ";", 2, 15);
    }

    private static void signs() {
        Check.sentence("Input text", "; and - are tokens");
        reads("bath 5 5 wind-1-2;;".substring(0, 18), 0);
        reads("bath 5 5 wind - 1\n-\n2 ;", 0);
        fails("bath 5 5 wind -- 1 1;", 1, 15);
        fails("bath 5 5 wind - ;", 1, 16);
        fails("bath 5 5 wind + 1 1;", 1, 14);
        fails("bath 5 5 ,", 1, 9);
        fails("bath -5 5;", 1, 5);
        fails("bath 5 5;soap -1 1 1;", 1, 14);
        fails("bath 5 5;boat 1 1 1 -1;", 1, 20);
    }

    private static void separators() {
        Check.sentence("Input text", "The bytes 32 and 10 separate tokens and are otherwise ignored. "
                + "Every other byte is an invalid token.");
        for (int b = 0; b < 256; b++) {
            boolean separates = b == 32 || b == 10;
            String sign = String.valueOf((char) b);
            if (separates) {
                reads("bath" + sign + "5" + sign + "5;" + sign, 0);
                reads(sign + sign + "bath 5 5" + sign + ";", 0);
            } else {
                fails("bath 5 5;" + sign, 1, 9);
                fails("bath 5 5; " + sign + ";", 1, 10);
            }
        }
    }

    private static void sizeOfBath() {
        Check.sentence("The bath", "The bath has W columns and H rows of cells (3 to 10 each).");
        range("bath ", 3, 10, " 5;", x -> x.size(0));
        range("bath 5 ", 3, 10, ";", x -> x.size(1));
        range("bath 10 ", 3, 10, ";boat 9 2 1 1;", x -> x.size(1));
    }

    private static void levelPushWind() {
        Check.sentence("The bath", "The bath has a LEVEL (0 to 1000; 500 at first)");
        range("bath 5 5 level ", 0, 1000, ";", x -> x.size(9));
        Check.sentence("The bath", "a PUSH (0 to 9)");
        range("bath 5 5 push ", 0, 9, ";", x -> x.size(10));
        Check.sentence("The bath", "a WIND with two components x and y (-99 to 99 each; 0 at first)");
        range("bath 5 5 wind ", 0, 99, " 7;", x -> x.size(13));
        range("bath 5 5 wind 7 ", 0, 99, ";", x -> x.size(14));
        range("bath 5 5 wind -", 0, 99, " 7;", x -> -x.size(13));
        range("bath 5 5 wind 7 -", 0, 99, ";", x -> -x.size(14));
    }

    private static void defaults() {
        Check.sentence("Input text", "PUSH is 1 without 'push'.");
        BathBoats x = Check.bath("bath 5 5 level 7 push 9 wind 8 9;");
        Check.load(x, "bath 5 5 level 3 wind 1 2;");
        Check.due("PUSH", x.size(10), 1);
        Check.sentence("The bath", "The bath has a LEVEL (0 to 1000; 500 at first)");
        Check.load(x, "bath 5 5 push 3 wind 1 2;");
        Check.due("the LEVEL without 'level'", x.size(9), 500);
        Check.sentence("The bath", "a WIND with two components x and y (-99 to 99 each; 0 at first)");
        Check.load(x, "bath 5 5 level 3 push 3;");
        Check.due("the WIND without 'wind'", Math.abs(x.size(13)) + Math.abs(x.size(14)), 0);
        Check.sentence("The bath", "a time (0 at first)");
        x.turn(1);
        Check.load(x, "bath 5 5;");
        Check.due("the time", x.size(8), 0);
    }

    private static void order() {
        Check.sentence("Input text", "text: 'bath' W H ['level' LEVEL] ['push' PUSH] ['wind' wind wind] ';' clause*");
        reads("bath 5 5 level 1 push 1 wind 1 1;", 0);
        reads("bath 5 5 level 1 wind 1 1;", 0);
        reads("bath 5 5 push 1;", 0);
        fails("bath 5 5 push 1 level 1;", 1, 16);
        fails("bath 5 5 wind 1 1 push 1;", 1, 18);
        fails("bath 5 5 wind 1 1 level 1;", 1, 18);
        fails("bath 5 5 level 1 level 1;", 1, 17);
        fails("bath 5 5 push 1 push 1;", 1, 16);
        fails("bath 5 5 wind 1 1 wind 1 1;", 1, 18);
        fails("bath 5 5 wind 1 1 1;", 1, 18);
        fails("bath 5 5;;", 1, 9);
        fails("bath 5 5;bath 5 5;", 1, 9);
        fails("bath 5 5;level 5;", 1, 9);
    }

    private static void drains() {
        Check.sentence("The bath", "A drain has a size (1 to 99) and a rate (0 to 99)");
        range(SIZED + "drain 1 1 ", 1, 99, " 1;", x -> x.drain(0, 2));
        range(SIZED + "drain 1 1 1 ", 0, 99, ";", x -> x.drain(0, 3));
        Check.sentence("Input text, drain", "an x or y is out of range if there is no such column or row");
        range(SIZED + "drain ", 0, 3, " 4 1 1;", x -> x.drain(0, 0));
        range(SIZED + "drain 3 ", 0, 5, " 1 1;", x -> x.drain(0, 1));
    }

    private static void taps() {
        Check.sentence("The bath", "A tap has a rate (0 to 99).");
        range(SIZED + "tap 1 1 ", 0, 99, ";", x -> x.tap(0, 2));
        Check.sentence("Input text, tap", "an x or y is out of range if there is no such column or row");
        range(SIZED + "tap ", 0, 3, " 4 1;", x -> x.tap(0, 0));
        range(SIZED + "tap 3 ", 0, 5, " 1;", x -> x.tap(0, 1));
    }

    private static void boats() {
        Check.sentence("The bath", "A boat has a weight (1 to 99), a strength (1 to 999)");
        range(SIZED + "boat 1 1 ", 1, 99, " 1;", x -> x.boat(0, 2));
        range(SIZED + "boat 1 1 1 ", 1, 999, ";", x -> x.boat(0, 3));
        Check.sentence("Input text, boat", "an x or y is out of range if there is no such column or row");
        range(SIZED + "boat ", 0, 3, " 4 1 1;", x -> x.boat(0, 0));
        range(SIZED + "boat 3 ", 0, 5, " 1 1;", x -> x.boat(0, 1));
    }

    private static void wetness() {
        Check.sentence("Input text", "A wetness is 0 to the strength.");
        range(SIZED + "boat 1 1 1 1 wet ", 0, 1, ";", x -> x.boat(0, 4));
        range(SIZED + "boat 1 1 1 7 wet ", 0, 7, ";", x -> x.boat(0, 4));
        range(SIZED + "boat 1 1 1 999 wet ", 0, 999, ";", x -> x.boat(0, 4));
        BathBoats two = Check.bath(SIZED + "boat 1 1 1 9 wet 9;boat 2 2 1 9;");
        Check.due("the wetness of a boat without 'wet' behind a wet one", two.boat(1, 4), 0);
    }

    private static void soaps() {
        Check.sentence("Input text", "An amount is 1 to 99");
        range(SIZED + "soap 3 5 ", 1, 99, ";", x -> x.soap(3, 5));
        Check.sentence("Input text, soap", "an x or y is out of range if there is no such column or row");
        range(SIZED + "soap ", 0, 3, " 4 1;", x -> x.soap(0, 4) > 0 ? 0 : x.soap(3, 4) > 0 ? 3 : -1);
        range(SIZED + "soap 3 ", 0, 5, " 1;", x -> x.soap(3, 0) > 0 ? 0 : x.soap(3, 5) > 0 ? 5 : -1);
    }

    private static void soapReplaced() {
        Check.sentence("Input text", "it replaces the soap that an earlier clause put into the same cell");
        Check.due("a greater amount", reads("bath 5 5;soap 1 2 5;soap 1 2 98;", 0).soap(1, 2), 98);
        Check.due("a smaller amount", reads("bath 5 5;soap 1 2 98;soap 1 2 5;", 0).soap(1, 2), 5);
        BathBoats x = reads("bath 5 5;soap 1 2 98;soap 2 1 5;soap 1 2 1;", 0);
        Check.due("the soap in the same cell", x.soap(1, 2), 1);
        Check.due("the soap in another cell", x.soap(2, 1), 5);
        Check.due("all soap", x.size(12), 6);
    }

    private static final String[] WHOLE = {"bath", "5", "6", "level", "7", "push", "8", "wind", "-", "9", "-", "10", ";",
        "drain", "1", "2", "3", "4", ";", "tap", "1", "1", "5", ";", "boat", "2", "3", "4", "5", "wet", "5", ";",
        "boat", "2", "4", "4", "5", ";", "soap", "3", "3", "3", ";"};

    private static final int SECOND_BOAT_END = 37;

    private static void cutTexts() {
        Check.sentence("Input text", "the text ends too early (the position is then the length of the text)");
        String text = "";
        boolean whole = false;
        int boats = 0;
        for (String token : WHOLE) {
            for (String end : new String[] {"", " ", "\n  \n"}) {
                if (whole) {
                    reads(text + end, boats);
                } else {
                    fails(text + end, 1, text.length() + end.length());
                }
            }
            text += (text.isEmpty() ? "" : " ") + token;
            whole = token.equals(";");
            boats = token.equals("boat") ? boats + 1 : boats;
        }
        reads(text, 2);
    }

    private static void cutTokens() {
        Check.sentence("promise 3", "number of bytes to read");
        BathBoats x = new BathBoats();
        String[] texts = {"bath 5 50;", "bath 5 5 level 1;5;", "bath 5 5;soapsoap 1 1 1;", "bath 5 5;boat 1 1 1 1 wetwet 1;"};
        int[] lengths = {8, 16, 13, 25};
        for (int i = 0; i < texts.length; i++) {
            Check.feed(x, texts[i]);
            Check.due("load of the first bytes of \"" + texts[i] + "\"", x.load(lengths[i]), -11);
            Check.due("its position", x.errorPosition(), lengths[i]);
        }
        Check.feed(x, "bath 5 5 level 5000;");
        Check.due("load that ends within a number and before its sign", x.load(16), -11);
        Check.feed(x, "bath 5 10;");
        Check.due("load of half a number", x.load(8), -12);
        Check.due("its position", x.errorPosition(), 7);
        Check.feed(x, "bath 5 5;soap");
        Check.due("load of half a word", x.load(12), -11);
        Check.due("its position", x.errorPosition(), 9);
        Check.feed(x, "bath 5 5;??");
        Check.due("load of what is before an error", x.load(9), 0);
    }

    private static void notAllowed() {
        Check.sentence("Input text", "1 The token is invalid or not allowed here");
        String[] strange = {"?", "(", "x", "bath", "5", "-", ";", "wet", "\t", "=", "\u00e9", "level"};
        String text = "";
        for (int i = 0; i < WHOLE.length; i++) {
            for (String token : strange) {
                if (!fits(i, token)) {
                    fails(text + " " + token + " 5 5", 1, text.length() + 1);
                }
            }
            text += (text.isEmpty() ? "" : " ") + WHOLE[i];
        }
    }

    /** Whether a token may stand in place of the token i of WHOLE. */
    private static boolean fits(int i, String token) {
        String due = WHOLE[i];
        boolean number = due.charAt(0) >= '0' && due.charAt(0) <= '9';
        if (token.equals(due)) {
            return true;
        }
        if (token.equals("5")) {
            return number || due.equals("-");
        }
        if (token.equals("wet")) {
            return i == SECOND_BOAT_END;
        }
        return token.equals(";") && (due.equals("level") || due.equals("push") || due.equals("wind") || due.equals("wet"));
    }

    private static String drains(int count) {
        String text = "";
        for (int i = 0; i < count; i++) {
            text += "drain " + i + " 0 1 1;";
        }
        return text;
    }

    private static String taps(int count) {
        String text = "";
        for (int i = 0; i < count; i++) {
            text += "tap " + i + " 1 1;";
        }
        return text;
    }

    private static String boats(int count) {
        String text = "";
        for (int i = 0; i < count; i++) {
            text += "boat " + i % 6 + " " + i / 6 + " 1 1;";
        }
        return text;
    }

    private static void tooMany() {
        Check.sentence("Input text", "3 The keyword of the 6th drain, of the 6th tap or of the 13th boat.");
        String[] fulls = {"bath 6 6;" + drains(5), "bath 6 6;" + taps(5), "bath 6 6;" + boats(12)};
        String[] keywords = {"drain", "tap", "boat"};
        for (int i = 0; i < 3; i++) {
            reads(fulls[i], i == 2 ? 12 : 0);
            for (String rest : new String[] {" 5 5 1 1;", "", " ", " 9 9 9 9;", " 0 0 1 1;", "?", ";", "drain"}) {
                if (rest.equals("drain")) {
                    // a longer word is another one
                    fails(fulls[i] + keywords[i] + rest, 1, fulls[i].length());
                } else {
                    fails(fulls[i] + keywords[i] + rest, 3, fulls[i].length());
                    fails(fulls[i] + " \n" + keywords[i] + rest, 3, fulls[i].length() + 2);
                }
            }
            reads(fulls[i] + "soap 5 5 1;", i == 2 ? 12 : 0);
        }
    }

    private static void allAtMost() {
        Check.sentence("The bath", "There are at most 5 drains and at most 5 taps, each kind numbered from 0.");
        BathBoats x = reads("bath 6 6;" + drains(5) + taps(5) + boats(12) + "soap 5 5 1;", 12);
        Check.due("drains", x.size(2), 5);
        Check.due("taps", x.size(3), 5);
        for (int i = 0; i < 5; i++) {
            Check.due("the x of drain " + i, x.drain(i, 0), i);
            Check.due("the x of tap " + i, x.tap(i, 0), i);
        }
        Check.sentence("The bath", "There are at most 12 boats, numbered from 0 in the order in which they are added.");
        for (int b = 0; b < 12; b++) {
            Check.due("the cell of boat " + b, 6 * x.boat(b, 1) + x.boat(b, 0), b);
        }
    }

    private static void takenByDrainOrTap() {
        Check.sentence("Input text", "4 The y of a cell that already has a drain or tap (in a clause of a drain or tap)");
        for (String rate : new String[] {"0", "9"}) {
            fails("bath 6 6;drain 1 2 3 " + rate + ";drain 1 2 3 4;", 4, 31);
            fails("bath 6 6;drain 1 2 3 " + rate + ";tap 1 2 3;", 4, 29);
            fails("bath 6 6;tap 1 2 " + rate + ";drain 1 2 3 4;", 4, 27);
            fails("bath 6 6;tap 1 2 " + rate + ";tap 1 2 3;", 4, 25);
        }
        fails("bath 6 6;drain 0 0 3 4;tap 0 0", 4, 29);
        fails("bath 6 6;tap 5 5 4;tap 5 5?", 4, 25);
        fails("bath 6 6;drain 1 2 3 4;drain 01 002 3 4;", 4, 32);
        fails("bath 6 6;drain 1 2 3 4;drain 3 4 3 4;tap 5 0 1;tap 1 2 9;", 4, 53);
    }

    private static void takenByBoat() {
        Check.sentence("Input text", "or a boat (in a clause of a boat)");
        fails("bath 6 6;boat 1 2 3 4;boat 1 2 3 4;", 4, 29);
        fails("bath 6 6;boat 0 0 3 4;boat 0 0", 4, 29);
        fails("bath 6 6;boat 5 5 3 4;boat 1 1 1 1;boat 5 5 0 0;", 4, 42);
    }

    private static void notTaken() {
        Check.sentence("The bath", "No cell has more than one drain or tap.");
        reads("bath 6 6;drain 1 2 3 4;drain 2 1 3 4;tap 1 3 4;tap 0 2 4;tap 2 2 9;", 0);
        reads("bath 6 6;drain 1 2 3 4;boat 1 2 3 4;soap 1 2 3;tap 3 3 3;boat 3 3 3 3;soap 3 3 3;", 2);
        reads("bath 6 6;boat 1 2 3 4;soap 1 2 3;drain 1 2 3 4;boat 3 3 3 3;tap 3 3 3;", 2);
        reads("bath 3 10;drain 1 2 3 4;tap 2 1 3;boat 1 2 1 1;boat 2 1 1 1;boat 0 3 1 1;boat 0 9 1 1;", 4);
        Check.sentence("The bath", "At most one boat that is afloat is in a cell.");
        reads("bath 6 6;boat 1 2 3 4;boat 2 1 3 4;boat 1 3 3 4;boat 0 2 3 4;", 4);
        fails("bath 6 6;boat 1 2 3 4 wet 4;boat 1 2 3 4;", 4, 35);
    }

    private static void firstError() {
        Check.sentence("Input text", "The first error along the text is reported, at the first byte of its token");
        fails("bath 11 12 level 1001;x", 2, 5);
        fails("bath 5 12 level 1001;x", 2, 7);
        fails("bath 5 5 level 1001 x", 2, 15);
        fails("bath 5 5;soap 0005 05 00;", 2, 14);
        fails("bath 5 5;soap 4 05 00;", 2, 16);
        fails("bath 5 5;soap 4 4 00;", 2, 18);
        fails("bath 5 5;soaps 5 5 0;", 1, 9);
        fails("bath 5 5;boat 1 1 1 1 wet 2?", 2, 26);
        fails("bath 5 5;boat 1 1 1 1 wet 1?", 1, 27);
    }

    private static void smallestCode() {
        Check.sentence("Input text", "if several codes apply to one token, the smallest one");
        fails("bath 5 5 99999;", 1, 9);
        fails("bath 5 5;99999", 1, 9);
        fails("bath 5 5;boat 1 1 1 1 1000;", 1, 22);
        fails("bath 5 5;boat 1 1 1 1;boat 1 9 1 1;", 2, 29);
        fails("bath 6 6;" + drains(5) + "soap 1 1 drain", 1, 9 + drains(5).length() + 9);
        fails("bath 6 6;" + boats(12) + "soap boat", 1, 9 + boats(12).length() + 5);
    }
}
