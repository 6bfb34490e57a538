/** Promises 31, 32, 34 to 42 and 46 to 49 with "Operations": each sentence that names a boundary has its own test. */
public final class OperationEdgeTest {
    // boat 2 sinks and boat 3 is drained in the first turn; boat 4 lies upon a drain that is too small for it
    private static final String START = "bath 5 4 level 0 push 2 wind 3 -4;drain 4 3 50 10;drain 0 3 5 0;tap 2 2 7;tap 3 2 0;"
            + "boat 0 0 10 20 wet 3;boat 1 2 20 30;boat 3 3 5 1 wet 1;boat 4 3 9 99;boat 0 3 60 99;soap 1 2 25;soap 4 0 98;";
    private static final int OPERATIONS = 13;

    public static void main(String[] args) {
        addBoatRange();
        addBoatCell();
        addBoatOfTwelve();
        addBoatUponBoat();
        addBoatDry();
        carryCells();
        carryErrors();
        blowRange();
        blowLimits();
        blowErrors();
        dryBounds();
        drainRates();
        tapRates();
        soapAmounts();
        soapCells();
        wipeBounds();
        pushRange();
        windRange();
        levelRange();
        recorded();
        notRecorded();
        tenMostRecent();
        tenAndMore();
        everyKindUndone();
        notUndone();
        nothingToUndo();
        undoCounts();
        snapshotNone();
        snapshotKept();
        snapshotReplaced();
        snapshotClears();
        snapshotOfAll();
        Check.end();
    }

    private static BathBoats start() {
        BathBoats x = Check.bath(START);
        x.turn(1);
        return x;
    }

    private static void addBoatRange() {
        Check.sentence("The bath", "A boat has a weight (1 to 99), a strength (1 to 999)");
        BathBoats x = start();
        Check.due("addBoat of the least", x.addBoat(1, 0, 1, 1), 5);
        Check.due("addBoat of the greatest", x.addBoat(2, 0, 99, 999), 6);
        Check.due("the least", Check.boat(x, 5), "1 0 1 1 0 0 0 0 -1 0 0");
        Check.due("the greatest", Check.boat(x, 6), "2 0 99 999 0 0 0 0 -1 0 0");
        for (int weight : new int[] {0, 100, -1, Integer.MAX_VALUE, Integer.MIN_VALUE}) {
            Check.badArgument("addBoat of weight " + weight, x, () -> x.addBoat(3, 0, weight, 9));
            Check.badArgument("addBoat upon a boat, of weight " + weight, x, () -> x.addBoat(0, 0, weight, 9));
        }
        for (int strength : new int[] {0, 1000, -1, Integer.MAX_VALUE, Integer.MIN_VALUE}) {
            Check.badArgument("addBoat of strength " + strength, x, () -> x.addBoat(3, 0, 9, strength));
            Check.badArgument("addBoat upon a boat, of strength " + strength, x, () -> x.addBoat(0, 0, 9, strength));
        }
    }

    private static void addBoatCell() {
        Check.sentence("promise 31", "if there is no such cell (checked first)");
        BathBoats x = start();
        for (int weight : new int[] {9, 0, 100}) {
            for (int[] c : new int[][] {{-1, 0}, {5, 0}, {0, -1}, {0, 4}, {5, 3}, {4, 4}, {-1, 1}, {5, -1}}) {
                Check.noElement("addBoat in " + c[0] + ", " + c[1], x, () -> x.addBoat(c[0], c[1], weight, 9));
            }
            for (int n : Check.FAR_NUMBERS) {
                Check.noElement("addBoat in column " + n, x, () -> x.addBoat(n, 1, weight, 0));
                Check.noElement("addBoat in row " + n, x, () -> x.addBoat(1, n, weight, 1000));
            }
        }
        Check.due("addBoat in the last cell", x.addBoat(4, 3, 9, 9), 5);
        Check.due("addBoat in the first row", x.addBoat(4, 0, 9, 9), 6);
    }

    private static void addBoatOfTwelve() {
        Check.sentence("promise 31", "-2 if there are 12 boats, -3 if a boat is afloat in the cell");
        BathBoats y = Check.bath("bath 5 5 level 0;");
        for (int b = 0; b < 12; b++) {
            Check.due("addBoat no " + b, y.addBoat(b % 5, b / 5, 9, b < 6 ? 1 : 9), b);
        }
        Check.unchanged("addBoat no 12", y, () -> y.addBoat(4, 4, 9, 9), -2);
        Check.unchanged("addBoat no 12 upon a boat", y, () -> y.addBoat(0, 0, 9, 9), -2);
        y.turn(2);
        Check.due("boats afloat", y.size(5), 6);
        Check.unchanged("addBoat no 12 after six sank", y, () -> y.addBoat(4, 4, 9, 9), -2);
        y.undo();
        y.undo();
        Check.due("addBoat after undo of the last one", y.addBoat(4, 4, 9, 9), 11);
        Check.unchanged("addBoat no 12 again", y, () -> y.addBoat(3, 4, 9, 9), -2);
        BathBoats full = StateEdgeTest.full();
        Check.unchanged("addBoat to a text of 12 boats", full, () -> full.addBoat(5, 5, 9, 9), -2);
    }

    private static void addBoatUponBoat() {
        Check.sentence("promise 31", "-3 if a boat is afloat in the cell");
        BathBoats x = start();
        Check.unchanged("addBoat upon a boat", x, () -> x.addBoat(0, 0, 9, 9), -3);
        Check.due("addBoat upon a sunk boat", x.addBoat(3, 3, 9, 9), 5);
        Check.due("addBoat upon a drained boat", x.addBoat(4, 3, 9, 9), 6);
        Check.unchanged("addBoat upon the one that lies upon the sunk one", x, () -> x.addBoat(3, 3, 9, 9), -3);
        Check.due("addBoat upon a tap", x.addBoat(2, 2, 9, 9), 7);
    }

    private static void addBoatDry() {
        Check.sentence("promise 31", "adds a boat, dry and without drift");
        BathBoats x = Check.bath("bath 5 5 level 0;boat 0 0 9 9 wet 9;soap 1 1 99;");
        x.addBoat(1, 1, 9, 9);
        x.blow(1, 200, -200);
        x.turn(1);
        x.undo();
        x.undo();
        x.undo();
        Check.due("addBoat after undo of a wet one", x.addBoat(1, 1, 8, 7), 1);
        Check.due("the boat", Check.boat(x, 1), "1 1 8 7 0 0 0 0 -1 0 0");
        Check.due("its cell", x.boatAt(1, 1), 1);
        Check.load(x, "bath 5 5;boat 0 0 9 9 wet 9;boat 1 1 9 9 wet 9;");
        Check.load(x, "bath 5 5;");
        Check.due("addBoat after a text with wet boats", x.addBoat(2, 2, 3, 4), 0);
        Check.due("the boat", Check.boat(x, 0), "2 2 3 4 0 0 0 0 -1 0 0");
    }

    private static void carryCells() {
        Check.sentence("promise 32", "puts a boat into a cell and sets its drift to 0");
        BathBoats x = start();
        x.blow(0, 50, -50);
        Check.due("carry to its own cell", x.carry(0, 0, 0), 0);
        Check.due("the boat", Check.boat(x, 0), "0 0 10 20 4 0 0 0 -1 0 0");
        x.blow(0, 50, -50);
        Check.due("carry to the last cell", x.carry(0, 4, 3), 0);
        Check.due("the boat", Check.boat(x, 0), "4 3 10 20 4 0 0 0 -1 0 0");
        Check.due("carry back", x.carry(0, 0, 0), 19);
        Check.due("boatAt of the last cell", x.boatAt(4, 3), -1);
        Check.due("carry upon a sunk boat", x.carry(0, 3, 3), 0);
        Check.due("boatAt there", x.boatAt(3, 3), 0);
        Check.sentence("promise 32", "if there is no such boat or cell");
        for (int b : new int[] {0, 2, 3}) {
            for (int[] c : new int[][] {{-1, 0}, {5, 0}, {0, -1}, {0, 4}, {5, 3}, {4, 4}, {-1, 1}, {5, -1}, {858993460, 1}, {1, 858993459}}) {
                Check.noElement("carry of " + b + " to " + c[0] + ", " + c[1], x, () -> x.carry(b, c[0], c[1]));
            }
        }
        for (int b : new int[] {-1, 5, 12, 390451573, Integer.MAX_VALUE, Integer.MIN_VALUE}) {
            Check.noElement("carry of " + b, x, () -> x.carry(b, 1, 1));
        }
    }

    private static void carryErrors() {
        Check.sentence("promise 32", "-2 if it is not afloat, -3 if another boat is afloat in the cell");
        BathBoats x = start();
        Check.unchanged("carry of a sunk boat", x, () -> x.carry(2, 1, 1), -2);
        Check.unchanged("carry of a sunk boat to its cell", x, () -> x.carry(2, 3, 3), -2);
        Check.unchanged("carry of a drained boat", x, () -> x.carry(3, 1, 1), -2);
        Check.unchanged("carry of a sunk boat upon a boat", x, () -> x.carry(2, 0, 0), -2);
        Check.unchanged("carry upon a boat", x, () -> x.carry(0, 1, 2), -3);
        Check.due("carry upon a drained boat", x.carry(0, 4, 3), 0);
    }

    private static void blowRange() {
        Check.sentence("promise 34", "-300 to 300");
        BathBoats x = start();
        for (int d : new int[] {-301, 301, 600, Integer.MAX_VALUE, Integer.MIN_VALUE}) {
            Check.badArgument("blow by dx " + d, x, () -> x.blow(0, d, 0));
            Check.badArgument("blow by dy " + d, x, () -> x.blow(0, 0, d));
            Check.badArgument("blow of a sunk boat by dx " + d, x, () -> x.blow(2, d, 0));
            Check.badArgument("blow of a sunk boat by dy " + d, x, () -> x.blow(2, 0, d));
        }
        Check.due("blow by 300 and -300", x.blow(0, 300, -300), 600);
        Check.due("blow by -300 and 300", x.blow(0, -300, 300), 0);
    }

    private static void blowLimits() {
        Check.sentence("promise 34", "grow by dx and dy, and are limited to -300 to 300");
        int[][] cases = {{299, 1, 300}, {300, 1, 300}, {300, 300, 300}, {299, 0, 299}, {1, 300, 300}, {-299, -1, -300},
            {-300, -1, -300}, {-300, -300, -300}, {-1, -300, -300}, {300, -300, 0}, {-300, 300, 0}, {1, -300, -299}};
        for (int[] c : cases) {
            BathBoats x = start();
            x.blow(0, c[0], -c[0]);
            Check.due("blow from " + c[0] + " by " + c[1], x.blow(0, c[1], -c[1]), 2 * Math.abs(c[2]));
            Check.due("x from " + c[0] + " by " + c[1], x.boat(0, 5), c[2]);
            Check.due("y from " + -c[0] + " by " + -c[1], x.boat(0, 6), -c[2]);
        }
        BathBoats y = start();
        Check.due("the sum of the absolute values", y.blow(0, -3, 5), 8);
        Check.due("the sum of the absolute values", y.blow(0, 3, -10), 5);
    }

    private static void blowErrors() {
        Check.sentence("promise 34", "-2 if the boat is not afloat");
        BathBoats x = start();
        Check.unchanged("blow of a sunk boat", x, () -> x.blow(2, 1, 1), -2);
        Check.unchanged("blow of a drained boat", x, () -> x.blow(3, 300, -300), -2);
        Check.sentence("promise 34", "if there is no such boat (checked first)");
        for (int d : new int[] {0, 301, -301}) {
            for (int b : new int[] {-1, 5, 12, 390451573, Integer.MAX_VALUE, Integer.MIN_VALUE}) {
                Check.noElement("blow of " + b + " by " + d, x, () -> x.blow(b, d, 0));
            }
        }
    }

    private static void dryBounds() {
        Check.sentence("promise 35", "Returns its wetness before; -2 if it is not afloat.");
        BathBoats x = start();
        Check.due("dry of a wet boat", x.dry(0), 4);
        Check.due("dry of a dry boat", x.dry(0), 0);
        Check.due("undoCount()", x.undoCount(), 3);
        Check.unchanged("dry of a sunk boat", x, () -> x.dry(2), -2);
        Check.unchanged("dry of a drained boat", x, () -> x.dry(3), -2);
        Check.due("dry of one that is as wet as it is strong", Check.bath("bath 3 3;boat 0 0 1 999 wet 999;").dry(0), 999);
        Check.sentence("promise 35", "if there is no such boat");
        for (int b : new int[] {-1, 5, 12, 390451573, Integer.MAX_VALUE, Integer.MIN_VALUE}) {
            Check.noElement("dry of " + b, x, () -> x.dry(b));
        }
    }

    private static void drainRates() {
        Check.sentence("promise 36", "0 to 99");
        BathBoats x = start();
        for (int rate : new int[] {-1, 100, Integer.MAX_VALUE, Integer.MIN_VALUE}) {
            Check.badArgument("setDrain(0, " + rate + ")", x, () -> x.setDrain(0, rate));
            Check.badArgument("setDrain(1, " + rate + ")", x, () -> x.setDrain(1, rate));
        }
        Check.due("setDrain(1, 99)", x.setDrain(1, 99), 0);
        Check.due("setDrain(1, 0)", x.setDrain(1, 0), 99);
        Check.due("setDrain(0, 0)", x.setDrain(0, 0), 10);
        Check.due("setDrain(0, 0) again", x.setDrain(0, 0), 0);
        Check.due("undoCount()", x.undoCount(), 5);
        Check.sentence("promise 36", "if there is no such drain (checked first)");
        for (int rate : new int[] {0, -1, 100}) {
            for (int d : new int[] {-1, 2, 5, 715827883, Integer.MAX_VALUE, Integer.MIN_VALUE}) {
                Check.noElement("setDrain(" + d + ", " + rate + ")", x, () -> x.setDrain(d, rate));
            }
        }
    }

    private static void tapRates() {
        Check.sentence("promise 37", "0 to 99");
        BathBoats x = start();
        for (int rate : new int[] {-1, 100, Integer.MAX_VALUE, Integer.MIN_VALUE}) {
            Check.badArgument("setTap(0, " + rate + ")", x, () -> x.setTap(0, rate));
            Check.badArgument("setTap(1, " + rate + ")", x, () -> x.setTap(1, rate));
        }
        Check.due("setTap(1, 99)", x.setTap(1, 99), 0);
        Check.due("setTap(1, 0)", x.setTap(1, 0), 99);
        Check.due("setTap(0, 7) as it is", x.setTap(0, 7), 7);
        Check.due("undoCount()", x.undoCount(), 4);
        Check.sentence("promise 37", "if there is no such tap (checked first)");
        for (int rate : new int[] {0, -1, 100}) {
            for (int t : new int[] {-1, 2, 5, 1431655766, Integer.MAX_VALUE, Integer.MIN_VALUE}) {
                Check.noElement("setTap(" + t + ", " + rate + ")", x, () -> x.setTap(t, rate));
            }
        }
    }

    private static void soapAmounts() {
        Check.sentence("promise 38", "adds soap to a cell, which has at most 99 then");
        int[][] cases = {{0, 1, 1}, {0, 99, 99}, {1, 98, 99}, {1, 99, 99}, {98, 1, 99}, {99, 1, 99}, {99, 99, 99}, {50, 48, 98}};
        for (int[] c : cases) {
            BathBoats x = new BathBoats();
            if (c[0] > 0) {
                x.dropSoap(4, 3, c[0]);
            }
            Check.due("dropSoap of " + c[1] + " upon " + c[0], x.dropSoap(4, 3, c[1]), c[2]);
            Check.due("the soap", x.soap(4, 3), c[2]);
            Check.due("all soap", x.size(12), c[2]);
        }
        Check.sentence("promise 38", "1 to 99");
        BathBoats x = start();
        for (int amount : new int[] {0, -1, 100, Integer.MAX_VALUE, Integer.MIN_VALUE}) {
            Check.badArgument("dropSoap of " + amount, x, () -> x.dropSoap(0, 0, amount));
        }
    }

    private static void soapCells() {
        Check.sentence("promise 38", "if there is no such cell (checked first)");
        BathBoats x = start();
        for (int amount : new int[] {1, 0, 100}) {
            for (int[] c : new int[][] {{-1, 0}, {5, 0}, {0, -1}, {0, 4}, {5, 3}, {4, 4}, {-1, 1}, {5, -1}, {858993460, 1}, {1, 858993459}}) {
                Check.noElement("dropSoap in " + c[0] + ", " + c[1], x, () -> x.dropSoap(c[0], c[1], amount));
            }
        }
        Check.due("dropSoap in the last cell", x.dropSoap(4, 3, 1), 1);
        Check.due("dropSoap in the first cell", x.dropSoap(0, 0, 1), 1);
    }

    private static void wipeBounds() {
        Check.sentence("promise 39", "Returns the soap in it before.");
        BathBoats x = Check.bath("bath 5 4;soap 4 3 99;soap 0 0 1;");
        Check.due("wipe of the last cell", x.wipe(4, 3), 99);
        Check.due("wipe of the last cell again", x.wipe(4, 3), 0);
        Check.due("wipe of the first cell", x.wipe(0, 0), 1);
        Check.due("all soap", x.size(12), 0);
        Check.due("undoCount()", x.undoCount(), 3);
        Check.sentence("promise 39", "if there is no such cell");
        for (int[] c : new int[][] {{-1, 0}, {5, 0}, {0, -1}, {0, 4}, {5, 3}, {4, 4}, {-1, 1}, {5, -1}, {858993460, 1}, {1, 858993459}}) {
            Check.noElement("wipe in " + c[0] + ", " + c[1], x, () -> x.wipe(c[0], c[1]));
        }
    }

    private static void pushRange() {
        Check.sentence("promise 40", "0 to 9");
        BathBoats x = start();
        for (int push : new int[] {-1, 10, Integer.MAX_VALUE, Integer.MIN_VALUE}) {
            Check.badArgument("setPush(" + push + ")", x, () -> x.setPush(push));
        }
        Check.due("setPush(9)", x.setPush(9), 2);
        Check.due("setPush(0)", x.setPush(0), 9);
        Check.due("setPush(0) again", x.setPush(0), 0);
        Check.due("undoCount()", x.undoCount(), 4);
    }

    private static void windRange() {
        Check.sentence("promise 41", "-99 to 99");
        BathBoats x = start();
        for (int wind : new int[] {-100, 100, Integer.MAX_VALUE, Integer.MIN_VALUE}) {
            Check.badArgument("setWind(" + wind + ", 0)", x, () -> x.setWind(wind, 0));
            Check.badArgument("setWind(0, " + wind + ")", x, () -> x.setWind(0, wind));
        }
        Check.due("setWind(-99, 99)", x.setWind(-99, 99), 7);
        Check.due("setWind(99, -99)", x.setWind(99, -99), 198);
        Check.due("setWind(0, 0)", x.setWind(0, 0), 198);
        Check.due("setWind(0, 0) again", x.setWind(0, 0), 0);
        Check.due("undoCount()", x.undoCount(), 5);
    }

    private static void levelRange() {
        Check.sentence("promise 42", "0 to 1000");
        BathBoats x = start();
        for (int level : new int[] {-1, 1001, Integer.MAX_VALUE, Integer.MIN_VALUE}) {
            Check.badArgument("setLevel(" + level + ")", x, () -> x.setLevel(level));
        }
        Check.due("setLevel(1000)", x.setLevel(1000), 0);
        Check.due("setLevel(0)", x.setLevel(0), 1000);
        Check.due("setLevel(0) again", x.setLevel(0), 0);
        Check.due("undoCount()", x.undoCount(), 4);
    }

    private static int operate(BathBoats x, int operation) {
        switch (operation) {
            case 0: return x.addBoat(2, 1, 9, 9);
            case 1: return x.carry(0, 4, 0);
            case 2: return x.pull(1, 4, 1, 9999);
            case 3: return x.blow(1, 100, -90);
            case 4: return x.dry(1);
            case 5: return x.setDrain(0, 77);
            case 6: return x.setTap(1, 66);
            case 7: return x.dropSoap(0, 1, 44);
            case 8: return x.wipe(1, 2);
            case 9: return x.setPush(9);
            case 10: return x.setWind(-9, 9);
            case 11: return x.setLevel(500);
            default: return x.turn(4);
        }
    }

    /** Each operation in a form that changes nothing; addBoat and turn always change something. */
    private static int changeNothing(BathBoats x, int operation) {
        switch (operation) {
            case 1: return x.carry(0, 0, 0);
            case 2: return x.pull(0, 0, 0, 0);
            case 3: return x.blow(0, 0, 0);
            case 4: return x.dry(5);
            case 5: return x.setDrain(0, 10);
            case 6: return x.setTap(1, 0);
            case 7: return x.dropSoap(3, 0, 9);
            case 8: return x.wipe(0, 1);
            case 9: return x.setPush(2);
            case 10: return x.setWind(3, -4);
            default: return x.setLevel(0);
        }
    }

    private static void recorded() {
        Check.sentence("Operations", "Every successful call is recorded, even if it changes nothing.");
        for (int operation = 1; operation < OPERATIONS - 1; operation++) {
            BathBoats x = start();
            x.addBoat(4, 1, 9, 9);
            x.dropSoap(3, 0, 99);
            int count = x.undoCount();
            String state = Check.state(x);
            Check.due("operation " + operation + " has no error", changeNothing(x, operation) >= 0, true);
            Check.due("the state after operation " + operation, Check.state(x), state);
            Check.due("undoCount() after operation " + operation, x.undoCount(), count + 1);
            Check.due("undo()", x.undo(), count);
            Check.due("the state after undo", Check.state(x), state);
        }
        for (int operation = 0; operation < OPERATIONS; operation++) {
            BathBoats x = start();
            Check.due("operation " + operation + " has no error", operate(x, operation) >= 0, true);
            Check.due("undoCount() after operation " + operation, x.undoCount(), 2);
        }
    }

    private static void refuse(BathBoats x, Check.Call call) {
        try {
            Object answer = call.go();
            Check.due("a refused call is an error", (Integer) answer < -1, true);
        } catch (java.util.NoSuchElementException | IllegalArgumentException e) {
            Check.due("a refused call throws", true, true);
        }
    }

    private static void notRecorded() {
        Check.sentence("Operations", "A call that returns a negative error code or throws an exception changes nothing");
        BathBoats x = start();
        x.saveSnapshot();
        String saved = Check.state(x);
        x.setLevel(77);
        String before = Check.state(x);
        x.dropSoap(3, 0, 99);
        x.format(2);
        Check.feed(x, "many boat < 4       ");
        Check.Call[] calls = {() -> x.addBoat(0, 0, 9, 9), () -> x.addBoat(5, 0, 9, 9), () -> x.addBoat(4, 0, 0, 9),
            () -> x.addBoat(4, 0, 9, 1000), () -> x.carry(2, 0, 0), () -> x.carry(0, 1, 2), () -> x.carry(5, 0, 0),
            () -> x.pull(3, 0, 0, 9), () -> x.pull(0, 1, 2, 9), () -> x.pull(0, 4, 4, 9), () -> x.pull(0, 4, 3, -1),
            () -> x.blow(2, 9, 9), () -> x.blow(-1, 9, 9), () -> x.blow(0, 301, 9), () -> x.blow(0, 9, -301),
            () -> x.dry(3), () -> x.dry(5), () -> x.setDrain(2, 9), () -> x.setDrain(0, 100), () -> x.setTap(2, 9),
            () -> x.setTap(0, -1), () -> x.dropSoap(0, 4, 9), () -> x.dropSoap(0, 0, 0), () -> x.wipe(-1, 0),
            () -> x.setPush(10), () -> x.setWind(100, 0), () -> x.setWind(0, -100), () -> x.setLevel(1001),
            () -> x.turn(0), () -> x.turn(201), () -> x.load(21), () -> x.query(21), () -> x.load(-1), () -> x.query(-1)};
        String picture = Check.picture(x);
        for (Check.Call call : calls) {
            refuse(x, call);
        }
        Check.due("the picture", Check.picture(x), picture);
        Check.due("formattedByte(1)", x.formattedByte(1), (int) 'b');
        Check.due("formattedByte(4)", x.formattedByte(4), (int) '.');
        Check.due("the buffer", x.query(13), 4);
        Check.due("undo()", x.undo(), 2);
        Check.due("the state after undo", Check.state(x), before);
        Check.due("undo()", x.undo(), 1);
        Check.due("the state after undo", Check.state(x), saved);
        x.setPush(8);
        Check.due("restoreSnapshot()", x.restoreSnapshot(), true);
        Check.due("the snapshot", Check.state(x), saved);
    }

    private static void tenMostRecent() {
        Check.sentence("Operations", "The 10 most recent operations can be undone, the most recent one first.");
        for (int count : new int[] {1, 9, 10, 11, 19, 20, 21, 25, 100}) {
            BathBoats x = new BathBoats();
            for (int i = 1; i <= count; i++) {
                x.setLevel(i);
            }
            int kept = Math.min(count, 10);
            Check.due("undoCount() after " + count, x.undoCount(), kept);
            for (int i = 1; i <= kept; i++) {
                Check.due("undo() no " + i + " after " + count, x.undo(), kept - i);
                Check.due("the LEVEL", x.size(9), count == i ? 500 : count - i);
            }
            Check.due("undo() of one more after " + count, x.undo(), -1);
            Check.due("the LEVEL", x.size(9), count <= 10 ? 500 : count - 10);
        }
    }

    private static void tenAndMore() {
        Check.sentence("promise 46", "Returns the number of operations that can be undone.");
        BathBoats x = new BathBoats();
        Check.due("undoCount() at first", x.undoCount(), 0);
        for (int i = 1; i <= 14; i++) {
            x.setLevel(i);
        }
        for (int i = 0; i < 4; i++) {
            x.undo();
        }
        Check.due("undoCount() after 14 and 4 undone", x.undoCount(), 6);
        for (int i = 0; i < 5; i++) {
            x.setLevel(900 + i);
            Check.due("undoCount() after more", x.undoCount(), Math.min(7 + i, 10));
        }
        int[] levels = {903, 902, 901, 900, 10, 9, 8, 7, 6, 5};
        for (int i = 0; i < 10; i++) {
            Check.due("undo()", x.undo(), 9 - i);
            Check.due("the LEVEL", x.size(9), levels[i]);
        }
        Check.due("undo() of one more", x.undo(), -1);
        Check.due("the LEVEL", x.size(9), 5);
    }

    private static void everyKindUndone() {
        Check.sentence("Operations", "Undoing restores everything that the operation changed");
        for (int operation = 0; operation < OPERATIONS; operation++) {
            BathBoats x = start();
            x.blow(1, 7, 8);
            String before = Check.state(x);
            operate(x, operation);
            Check.due("operation " + operation + " changes something", Check.state(x).equals(before), false);
            Check.due("undo() of operation " + operation, x.undo(), 2);
            Check.due("the state after undo of operation " + operation, Check.state(x), before);
            operate(x, operation);
            String after = Check.state(x);
            x.undo();
            operate(x, operation);
            Check.due("the state after operation " + operation + " again", Check.state(x), after);
        }
        BathBoats ends = Check.bath(START);
        String before = Check.state(ends);
        ends.turn(200);
        Check.due("boats that ended", ends.size(6) + ends.size(7), 5);
        ends.undo();
        Check.due("the state after undo of 200 turns", Check.state(ends), before);
        Check.noElement("ended(0, 0) after undo", ends, () -> ends.ended(0, 0));
        BathBoats order = Check.bath("bath 5 5 level 0;boat 0 0 1 1;boat 1 1 1 2;");
        order.turn(2);
        order.saveSnapshot();
        order.undo();
        order.dropSoap(1, 1, 50);
        order.turn(1);
        Check.due("ended(0, 0) in soap", order.ended(0, 0), 1);
        order.dropSoap(0, 0, 50);
        order.turn(1);
        Check.due("ended(1, 0) in soap", order.ended(1, 0), 0);
        Check.due("restoreSnapshot()", order.restoreSnapshot(), true);
        Check.due("ended(0, 0) as it was", order.ended(0, 0), 0);
        Check.noElement("ended(1, 0) as it was", order, () -> order.ended(1, 0));
    }

    private static void notUndone() {
        Check.sentence("Operations", "but not the buffer, the error position, the text of format and the snapshot");
        BathBoats x = start();
        x.setLevel(300);
        x.setPush(5);
        Check.query(x, "many x = ?");
        x.format(0);
        x.saveSnapshot();
        Check.feed(x, "many boat < 4       ");
        x.undo();
        x.undo();
        Check.due("the error position", x.errorPosition(), 9);
        Check.due("the text of format", x.formattedByte(0), (int) 'a');
        Check.due("the buffer", x.query(13), 4);
        Check.due("restoreSnapshot()", x.restoreSnapshot(), true);
        Check.due("the LEVEL of the snapshot", x.size(9), 300);
        Check.due("PUSH of the snapshot", x.size(10), 5);
    }

    private static void nothingToUndo() {
        Check.sentence("promise 47", "NONE if there was nothing to undo");
        BathBoats x = new BathBoats();
        String state = Check.state(x);
        Check.due("undo() of a new object", x.undo(), -1);
        Check.due("undo() again", x.undo(), -1);
        Check.due("undoCount()", x.undoCount(), 0);
        Check.due("the state", Check.state(x), state);
        x.setLevel(9);
        Check.due("undo() of the only one", x.undo(), 0);
        Check.due("undo() of no more", x.undo(), -1);
        Check.due("the state", Check.state(x), state);
        x.saveSnapshot();
        x.format(0);
        Check.query(x, "many 1 = 1");
        x.emptyIn();
        Check.due("undo() after calls that are no operations", x.undo(), -1);
    }

    private static void undoCounts() {
        Check.sentence("promise 47", "Returns the number of operations that can still be undone");
        BathBoats x = start();
        for (int operation = 0; operation < OPERATIONS; operation++) {
            operate(x, operation);
            Check.due("undoCount()", x.undoCount(), Math.min(operation + 2, 10));
        }
        for (int i = 9; i >= 0; i--) {
            Check.due("undo()", x.undo(), i);
            Check.due("undoCount()", x.undoCount(), i);
        }
        Check.due("undo()", x.undo(), -1);
    }

    private static void snapshotNone() {
        Check.sentence("promise 49", "Returns true; false if there is no snapshot (nothing changes).");
        BathBoats x = start();
        x.setLevel(77);
        String picture = Check.picture(x);
        Check.due("restoreSnapshot() of none", x.restoreSnapshot(), false);
        Check.due("the picture", Check.picture(x), picture);
        Check.due("undo()", x.undo(), 1);
        x.saveSnapshot();
        Check.due("restoreSnapshot() of one", x.restoreSnapshot(), true);
        Check.load(x, "bath 5 5;");
        Check.due("restoreSnapshot() after load", x.restoreSnapshot(), false);
        Check.due("undoCount() then", x.undoCount(), 0);
    }

    private static void snapshotKept() {
        Check.sentence("promise 49", "The snapshot is kept.");
        BathBoats x = start();
        x.saveSnapshot();
        String saved = Check.state(x);
        for (int operation = 0; operation < OPERATIONS; operation++) {
            operate(x, operation);
            Check.due("restoreSnapshot() after operation " + operation, x.restoreSnapshot(), true);
            Check.due("the state", Check.state(x), saved);
        }
        Check.due("restoreSnapshot() twice", x.restoreSnapshot(), true);
        Check.due("the state", Check.state(x), saved);
    }

    private static void snapshotReplaced() {
        Check.sentence("promise 48", "It replaces an earlier snapshot.");
        BathBoats x = start();
        x.saveSnapshot();
        x.turn(3);
        x.dropSoap(0, 0, 9);
        x.saveSnapshot();
        String second = Check.state(x);
        x.undo();
        x.undo();
        Check.due("restoreSnapshot()", x.restoreSnapshot(), true);
        Check.due("the state", Check.state(x), second);
        Check.due("undoCount()", x.undoCount(), 0);
    }

    private static void snapshotClears() {
        Check.sentence("promise 49", "Restores the snapshot and clears the undo history.");
        BathBoats x = start();
        for (int i = 0; i < 12; i++) {
            x.setLevel(i);
        }
        x.saveSnapshot();
        Check.due("undoCount() after saveSnapshot", x.undoCount(), 10);
        Check.due("undo() after saveSnapshot", x.undo(), 9);
        Check.due("restoreSnapshot()", x.restoreSnapshot(), true);
        Check.due("undoCount()", x.undoCount(), 0);
        Check.due("undo()", x.undo(), -1);
        Check.due("the LEVEL", x.size(9), 11);
        x.setLevel(99);
        Check.due("undo() of one since", x.undo(), 0);
        Check.due("the LEVEL", x.size(9), 11);
        Check.due("undo() of no more", x.undo(), -1);
    }

    private static void snapshotOfAll() {
        Check.sentence("promise 48", "Saves a snapshot of everything that undoing restores.");
        for (int operation = 0; operation < OPERATIONS; operation++) {
            BathBoats x = start();
            x.blow(1, 7, 8);
            x.saveSnapshot();
            String saved = Check.state(x);
            operate(x, operation);
            x.turn(30);
            Check.due("restoreSnapshot()", x.restoreSnapshot(), true);
            Check.due("the state before operation " + operation, Check.state(x), saved);
            x.turn(2);
            BathBoats y = start();
            y.blow(1, 7, 8);
            y.turn(2);
            Check.due("what follows", Check.state(x), Check.state(y));
        }
    }
}
