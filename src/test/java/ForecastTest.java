/** Promises 22 to 28: the forecasts, which must tell what the operations then lead to, and change nothing. */
public final class ForecastTest {
    private static final String BUSY = "bath 6 5 level 600 push 4 wind -9 12;drain 1 1 30 40;drain 4 3 60 55;"
            + "tap 5 0 60;tap 0 4 33;boat 2 2 10 60;boat 3 1 25 15 wet 3;boat 5 4 70 900;boat 0 0 4 30;soap 3 3 60;"
            + "soap 2 1 20;";
    private static final String[] BATHS = {BUSY,
        "bath 5 3 push 9 wind 99 0;drain 3 1 20 1;boat 1 1 10 100;",
        "bath 5 3 push 9 wind 99 0;drain 3 1 20 1;boat 1 1 10 20;soap 1 1 50;",
        "bath 4 4 level 1000;drain 1 1 50 99;drain 2 2 50 99;tap 0 0 99;tap 3 3 99;boat 0 1 9 99;boat 3 2 9 99;",
        "bath 3 3 level 300;drain 1 1 50 10;boat 1 1 10 9;boat 0 0 60 30;"};

    public static void main(String[] args) {
        endsIn();
        emptyIn();
        boatIn();
        afloatIn();
        rescue();
        refuge();
        plug();
        lastTurns();
        for (String text : BATHS) {
            againstTurns(text);
            againstOperations(text);
        }
        Check.end();
    }

    private static void endsIn() {
        Check.part("promise 22, endsIn");
        BathBoats x = Check.bath("bath 5 5 level 0;drain 4 4 9 1;boat 0 0 1 3;boat 0 1 1 299;boat 0 2 1 300;boat 4 4 1 9;"
                + "boat 3 3 1 9 wet 9;");
        int[] due = {4, 300, -1, 1, 1};
        for (int b = 0; b < 5; b++) {
            int boat = b;
            Check.unchanged("endsIn(" + b + ")", x, () -> x.endsIn(boat), due[b]);
        }
        x.turn(1);
        Check.due("endsIn(0)", x.endsIn(0), 3);
        Check.due("endsIn(2)", x.endsIn(2), 300);
        Check.due("endsIn(3) of a drained one", x.endsIn(3), 0);
        for (int b : new int[] {-1, 5, Integer.MAX_VALUE}) {
            Check.noElement("endsIn(" + b + ")", x, () -> x.endsIn(b));
        }
    }

    private static void emptyIn() {
        Check.part("promise 23, emptyIn");
        Check.due("by 30", Check.bath("bath 5 5 level 100;drain 0 0 9 30;").emptyIn(), 4);
        BathBoats x = Check.bath("bath 5 5 level 300;drain 0 0 9 1;");
        Check.unchanged("after all turns", x, () -> x.emptyIn(), 300);
        x.setLevel(301);
        Check.due("not in all turns", x.emptyIn(), -1);
        x.setLevel(0);
        Check.due("at once", x.emptyIn(), 0);
        BathBoats later = Check.bath("bath 5 5 level 100;drain 0 0 9 30;");
        later.turn(1);
        Check.due("by 30, a turn later", later.emptyIn(), 3);
        Check.due("clogged until the boat sinks", Check.bath("bath 5 5 level 9;drain 0 0 9 9;boat 0 0 10 3;").emptyIn(), 5);
        Check.due("with a tap", Check.bath("bath 5 5 level 9;drain 0 0 9 9;tap 1 1 9;").emptyIn(), -1);
    }

    private static void boatIn() {
        Check.part("promise 24, boatIn");
        BathBoats x = Check.bath("bath 5 5 wind 99 0;boat 0 0 10 4;");
        Check.due("boatIn(0, 0, 0)", x.boatIn(0, 0, 0), 0);
        Check.due("boatIn(0, 5, 1)", x.boatIn(0, 5, 1), 99);
        Check.unchanged("boatIn(0, 0, 2)", x, () -> x.boatIn(0, 0, 2), 1);
        Check.due("boatIn(0, 9, 4)", x.boatIn(0, 9, 4), 3);
        Check.due("boatIn(0, 7, 4)", x.boatIn(0, 7, 4), 0);
        Check.due("boatIn(0, 8, 4)", x.boatIn(0, 8, 4), -1);
        Check.due("boatIn(0, 7, 300)", x.boatIn(0, 7, 300), 1);
        Check.due("boatIn(0, 8, 300)", x.boatIn(0, 8, 300), 5);
        for (int[] a : new int[][] {{-1, 0, 0}, {1, 0, 301}, {0, -1, -1}, {0, 11, 0}, {0, 11, 301}}) {
            Check.noElement("boatIn(" + a[0] + ", " + a[1] + ", " + a[2] + ")", x, () -> x.boatIn(a[0], a[1], a[2]));
        }
        Check.badArgument("boatIn(0, 0, -1)", x, () -> x.boatIn(0, 0, -1));
        Check.badArgument("boatIn(0, 10, 301)", x, () -> x.boatIn(0, 10, 301));
    }

    private static void afloatIn() {
        Check.part("promise 25, afloatIn");
        BathBoats x = Check.bath("bath 5 5 level 0;boat 0 0 1 3;boat 0 1 1 299;boat 0 2 1 300;");
        Check.due("afloatIn(0)", x.afloatIn(0), 3);
        Check.due("afloatIn(3)", x.afloatIn(3), 3);
        Check.unchanged("afloatIn(4)", x, () -> x.afloatIn(4), 2);
        Check.due("afloatIn(299)", x.afloatIn(299), 2);
        Check.due("afloatIn(300)", x.afloatIn(300), 1);
        Check.badArgument("afloatIn(-1)", x, () -> x.afloatIn(-1));
        Check.badArgument("afloatIn(301)", x, () -> x.afloatIn(301));
    }

    private static void rescue() {
        Check.part("promise 26, rescue");
        // the wind drives the boat into the drain in turn 1, and later it sinks: its life is 2 at the most
        BathBoats x = Check.bath("bath 3 3 push 9 wind 99 0;drain 1 1 20 1;boat 0 1 10 2;");
        Check.due("endsIn(0)", x.endsIn(0), 1);
        Check.unchanged("rescue(0, 1) by soap on the drain for a turn", x, () -> x.rescue(0, 1), 4);
        Check.unchanged("rescue(0, 99) by soap above the boat", x, () -> x.rescue(0, 99), 0);
        BathBoats still = Check.bath("bath 3 3 level 0;boat 1 1 9 40;boat 0 0 9 39;boat 2 2 9 5;boat 0 2 1 1 wet 1;");
        Check.unchanged("rescue(0, 1) of a boat that lives on", still, () -> still.rescue(0, 1), -1);
        Check.due("rescue(1, 1) without water", still.rescue(1, 1), -1);
        Check.due("rescue(2, 99) without water", still.rescue(2, 99), -1);
        still.turn(1);
        Check.due("rescue(3, 1) of a sunk boat", still.rescue(3, 1), -1);
        Check.noElement("rescue(-1, 0)", still, () -> still.rescue(-1, 0));
        Check.noElement("rescue(4, 100)", still, () -> still.rescue(4, 100));
        Check.badArgument("rescue(0, 0)", still, () -> still.rescue(0, 0));
        Check.badArgument("rescue(3, 0)", still, () -> still.rescue(3, 0));
        Check.badArgument("rescue(0, 100)", still, () -> still.rescue(0, 100));
    }

    /** A boat that drifts by 3 a turn, and so into the drain to its right in the very last turn of a life. */
    private static BathBoats lastTurn() {
        BathBoats x = Check.bath("bath 3 3 wind 9 0;drain 1 1 40 1;boat 0 1 33 99;");
        x.blow(0, -20, 0);
        return x;
    }

    private static void lastTurns() {
        Check.part("promises 26 to 28, a life of 40 turns");
        BathBoats x = lastTurn();
        Check.due("endsIn(0)", x.endsIn(0), 40);
        Check.due("rescue(0, 1)", x.rescue(0, 1), 4);
        Check.due("refuge(0)", x.refuge(0), 0);
        Check.due("plug()", x.plug(), 0);
        x.blow(0, -3, 0);
        Check.due("endsIn(0) one turn later", x.endsIn(0), 41);
        Check.due("rescue(0, 1) is too late", x.rescue(0, 1), -1);
        Check.due("refuge(0) is too late", x.refuge(0), -1);
        Check.due("plug() is too late", x.plug(), -1);
        BathBoats wet = Check.bath("bath 3 3 level 0;boat 1 1 9 40;soap 1 1 10;");
        Check.due("endsIn(0) in soap", wet.endsIn(0), 40);
        Check.due("refuge(0) from soap", wet.refuge(0), 0);
    }

    private static void refuge() {
        Check.part("promise 27, refuge");
        BathBoats x = Check.bath("bath 3 3 level 0;boat 0 0 9 20;boat 1 1 9 20;boat 1 0 1 1 wet 1;soap 1 1 59;soap 0 0 3;"
                + "soap 2 0 1;");
        Check.unchanged("refuge(1) out of the soap", x, () -> x.refuge(1), 2);
        Check.due("refuge(0) where nothing is better", Check.bath("bath 3 3 level 0;boat 0 0 9 20;").refuge(0), -1);
        Check.due("refuge(0) of a boat that lives on", Check.bath("bath 3 3 level 0;boat 0 0 9 40;").refuge(0), -1);
        BathBoats own = Check.bath("bath 3 3 level 500;drain 2 0 20 1;boat 1 0 10 5;boat 0 0 99 9;boat 2 2 99 9;boat 0 1 99 9;"
                + "boat 1 1 99 9;boat 2 1 99 9;boat 0 2 99 9;boat 1 2 99 9;");
        own.blow(0, 100, 0);
        Check.due("refuge(0) in its own cell, by standing still", own.refuge(0), 1);
        x.turn(1);
        Check.due("refuge(2) of a sunk boat", x.refuge(2), -1);
        Check.noElement("refuge(-1)", x, () -> x.refuge(-1));
        Check.noElement("refuge(3)", x, () -> x.refuge(3));
    }

    private static void plug() {
        Check.part("promise 28, plug");
        BathBoats x = Check.bath("bath 9 9 level 0;drain 0 0 9 1;drain 4 4 9 1;drain 8 8 9 1;boat 4 4 9 99;boat 8 8 9 99;");
        Check.unchanged("plug() of two that do the same", x, () -> x.plug(), 1);
        x.carry(0, 5, 5);
        Check.due("plug()", x.plug(), 2);
        x.carry(1, 5, 6);
        Check.due("plug() that changes nothing", x.plug(), -1);
        Check.due("plug() without drains", Check.bath("bath 3 3;boat 0 0 1 9;").plug(), -1);
        Check.due("40 turns", Check.bath("bath 3 3 level 0;drain 0 0 9 1;boat 0 0 9 40;").plug(), 0);
        Check.due("not 41 turns", Check.bath("bath 3 3 level 0;drain 0 0 9 1;boat 0 0 9 39;").plug(), -1);
    }

    private static void againstTurns(String text) {
        Check.part("forecasts of " + text);
        BathBoats x = Check.bath(text);
        int[] turns = {0, 1, 2, 3, 5, 8, 13, 40, 100, 200};
        for (int t : turns) {
            BathBoats y = Check.bath(text);
            int boats = y.size(4);
            if (t > 0) {
                y.turn(t);
            }
            Check.due("afloatIn(" + t + ")", x.afloatIn(t), y.size(5));
            for (int b = 0; b < boats; b++) {
                for (int what = 0; what <= 10; what++) {
                    Check.due("boatIn(" + b + ", " + what + ", " + t + ")", x.boatIn(b, what, t), y.boat(b, what));
                }
            }
        }
        for (int b = 0; b < x.size(4); b++) {
            BathBoats y = Check.bath(text);
            int t = 0;
            while (y.boat(b, 7) == 0 && t < 300) {
                y.turn(1);
                t++;
            }
            Check.due("endsIn(" + b + ")", x.endsIn(b), y.boat(b, 7) == 0 ? -1 : t);
        }
    }

    /** The turns, of the next 40, after which a boat is afloat, by turn and undo alone. */
    private static int life(BathBoats x, int boat) {
        x.saveSnapshot();
        int life = 0;
        for (int t = 1; t <= 40; t++) {
            x.turn(1);
            if (x.boat(boat, 7) == 0) {
                life = t;
            }
        }
        x.restoreSnapshot();
        return life;
    }

    private static void againstOperations(String text) {
        Check.part("forecasts of operations in " + text);
        int w = Check.bath(text).size(0);
        int h = Check.bath(text).size(1);
        for (int b = 0; b < Check.bath(text).size(4); b++) {
            for (int amount : new int[] {1, 10, 99}) {
                int best = -1;
                int longest = life(Check.bath(text), b);
                for (int c = 0; c < w * h; c++) {
                    BathBoats y = Check.bath(text);
                    y.dropSoap(c % w, c / w, amount);
                    int life = life(y, b);
                    best = life > longest ? c : best;
                    longest = Math.max(life, longest);
                }
                Check.due("rescue(" + b + ", " + amount + ")", Check.bath(text).rescue(b, amount), best);
            }
            int best = -1;
            int longest = life(Check.bath(text), b);
            for (int c = 0; c < w * h; c++) {
                BathBoats y = Check.bath(text);
                int life = y.carry(b, c % w, c / w) < 0 ? -1 : life(y, b);
                best = life > longest ? c : best;
                longest = Math.max(life, longest);
            }
            Check.due("refuge(" + b + ")", Check.bath(text).refuge(b), best);
        }
        int best = -1;
        BathBoats same = Check.bath(text);
        same.turn(40);
        int most = same.size(5);
        for (int d = 0; d < same.size(2); d++) {
            BathBoats y = Check.bath(text);
            y.setDrain(d, 0);
            y.turn(40);
            best = y.size(5) > most ? d : best;
            most = Math.max(most, y.size(5));
        }
        Check.due("plug()", Check.bath(text).plug(), best);
    }
}
