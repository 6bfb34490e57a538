/** Promises 20, 21 and 33 with "Towing": each sentence that names a boundary, with a test of its own. */
public final class TowEdgeTest {
    private static final String SUNK = "bath 5 4 level 0;boat 0 0 9 99;boat 4 3 9 1 wet 1;boat 2 2 9 9;";

    public static void main(String[] args) {
        atTheTarget();
        notAfloat();
        otherBoats();
        drainsBySize();
        drainsByRate();
        ownCell();
        costs();
        longWay();
        walledIn();
        elements();
        stepOfSeveral();
        stepOrNone();
        pullBudget();
        pullBudgetRange();
        pullWithoutStep();
        pullAlong();
        pullErrors();
        pullRecorded();
        pullThroughOwnCell();
        Check.end();
    }

    private static BathBoats sunk() {
        BathBoats x = Check.bath(SUNK);
        x.turn(1);
        return x;
    }

    private static void atTheTarget() {
        Check.sentence("promise 20", "(0 if it is there)");
        BathBoats x = Check.bath("bath 5 4;drain 2 2 99 9;boat 2 2 9 9;boat 0 0 9 9;soap 2 2 99;");
        Check.due("tow(0, 2, 2) on an open drain, in soap", x.tow(0, 2, 2), 0);
        Check.due("tow(1, 0, 0)", x.tow(1, 0, 0), 0);
        Check.due("tow(1, 1, 0)", x.tow(1, 1, 0), 1);
        BathBoats shut = Check.bath("bath 3 3;boat 0 0 9 9;boat 1 0 9 9;boat 0 1 9 9;");
        Check.due("tow(0, 0, 0) of a boat that is shut in", shut.tow(0, 0, 0), 0);
    }

    private static void notAfloat() {
        Check.sentence("promise 20", "NONE if it is not afloat or there is no route");
        BathBoats x = sunk();
        Check.due("tow of a sunk boat", x.tow(1, 0, 1), -1);
        Check.due("tow of a sunk boat to its cell", x.tow(1, 4, 3), -1);
        Check.due("tow to the cell of a sunk boat", x.tow(0, 4, 3), 7);
        Check.due("tow to the cell of a boat", x.tow(0, 2, 2), -1);
        Check.due("tow to the cell before it", x.tow(0, 2, 1), 3);
    }

    private static void otherBoats() {
        Check.sentence("Towing", "A cell is free for a boat if no other boat is afloat in it");
        BathBoats x = Check.bath("bath 3 3 level 0;boat 0 1 9 99;boat 1 0 9 99;boat 1 1 9 1 wet 1;boat 1 2 9 99;");
        Check.due("a wall of boats", x.tow(0, 2, 1), -1);
        Check.due("the cell of a boat in the wall", x.tow(0, 1, 1), -1);
        x.turn(1);
        Check.due("a wall with a hole", x.tow(0, 2, 1), 2);
        Check.due("the hole", x.tow(0, 1, 1), 1);
        x.undo();
        Check.due("the wall again", x.tow(0, 2, 1), -1);
    }

    private static void drainsBySize() {
        Check.sentence("Towing", "it has no open drain whose size is at least the weight of the boat");
        BathBoats x = Check.bath("bath 3 3;drain 1 0 10 5;drain 1 1 11 5;drain 1 2 12 5;boat 0 1 10 99;");
        Check.due("drains of 10, 11 and 12 for weight 10", x.tow(0, 2, 1), -1);
        BathBoats heavy = Check.bath("bath 3 3;drain 1 0 10 5;drain 1 1 11 5;drain 1 2 12 5;boat 0 1 11 99;");
        Check.due("drains of 10, 11 and 12 for weight 11", heavy.tow(0, 2, 1), 4);
        Check.due("into the drain of 10", heavy.tow(0, 1, 0), 2);
        Check.due("into the drain of 11", heavy.tow(0, 1, 1), -1);
        BathBoats clogging = Check.bath("bath 3 3;drain 1 0 10 5;drain 1 1 11 5;drain 1 2 12 5;boat 0 1 13 99;boat 2 1 99 9;");
        Check.due("drains of 10, 11 and 12 for weight 13", clogging.tow(0, 1, 1), 1);
        clogging.carry(0, 1, 1);
        Check.due("past the drain that it clogs", clogging.tow(0, 2, 2), 2);
    }

    private static void drainsByRate() {
        Check.sentence("The bath", "it is open if its rate is above 0");
        BathBoats x = Check.bath("bath 3 3;drain 1 0 10 0;drain 1 1 10 1;drain 1 2 10 1;boat 0 1 10 99;");
        Check.due("through the closed drain", x.tow(0, 2, 1), 4);
        x.setDrain(0, 1);
        Check.due("with the drain opened", x.tow(0, 2, 1), -1);
        Check.due("into the drain opened", x.tow(0, 1, 0), -1);
        x.setDrain(1, 0);
        Check.due("with another drain closed", x.tow(0, 2, 1), 2);
    }

    private static void ownCell() {
        Check.sentence("Towing", "The cell of the boat itself is free for it if it is entered again.");
        BathBoats x = Check.bath("bath 3 3;drain 0 0 10 1;boat 0 0 10 99;boat 2 2 10 99;");
        Check.due("out of an open drain", x.tow(0, 2, 0), 2);
        Check.due("towStep out of an open drain", x.towStep(0, 0, 2), 3);
        Check.due("another boat to that cell", x.tow(1, 0, 0), -1);
        // beside the target are cells from which the only way leads through the boat's own cell
        BathBoats own = Check.bath("bath 3 3;drain 0 1 10 1;boat 0 1 10 99;boat 1 0 9 9;boat 1 2 9 9;");
        Check.due("towStep of several, one of them a dead end", own.towStep(0, 2, 1), 4);
        BathBoats ends = Check.bath("bath 3 3;boat 1 1 10 99;boat 1 0 9 9;boat 0 2 9 9;boat 2 2 9 9;soap 1 2 90;");
        Check.due("tow down through soap", ends.tow(0, 1, 2), 91);
        Check.due("towStep down through soap", ends.towStep(0, 1, 2), 7);
    }

    private static void costs() {
        Check.sentence("Towing", "a step costs 1 plus the soap in the cell that it leads to");
        BathBoats x = Check.bath("bath 3 3;boat 0 0 9 99;soap 0 0 99;soap 1 0 98;soap 2 0 97;soap 0 1 1;soap 1 1 2;soap 2 1 3;");
        Check.due("into a cell with soap, out of one with soap", x.tow(0, 1, 0), 1 + 98);
        Check.due("round it", x.tow(0, 2, 0), 2 + 3 + 4 + 98);
        Check.due("into a cell with little soap", x.tow(0, 0, 1), 2);
        Check.due("into a cell without soap", x.tow(0, 0, 2), 3);
        x.dropSoap(0, 1, 99);
        Check.due("into a cell that is full", x.tow(0, 0, 1), 100);
        Check.due("two ways that cost the same", x.tow(0, 1, 1), 99 + 3);
        Check.due("towStep of two that cost 99 and 100", x.towStep(0, 1, 1), 1);
        x.wipe(1, 0);
        x.dropSoap(1, 0, 99);
        Check.due("towStep of two that cost 100", x.towStep(0, 1, 1), 1);
        x.wipe(0, 1);
        x.dropSoap(0, 1, 98);
        Check.due("towStep of two that cost 100 and 99", x.towStep(0, 1, 1), 3);
    }

    /** Eleven boats in a bath of soap that leave a winding way from the first cell to the last. */
    private static BathBoats winding() {
        BathBoats x = Check.bath("bath 4 9;boat 0 0 9 999;boat 0 1 1 9;boat 1 1 1 9;boat 2 1 1 9;boat 3 3 1 9;boat 2 3 1 9;"
                + "boat 1 3 1 9;boat 0 5 1 9;boat 1 5 1 9;boat 2 5 1 9;boat 3 7 1 9;boat 2 7 1 9;drain 1 7 99 1;");
        for (int cell = 0; cell < 36; cell++) {
            x.dropSoap(cell % 4, cell / 4, 99);
        }
        return x;
    }

    private static void longWay() {
        Check.sentence("Towing", "The distance from a cell to a target is the least cost of a route from there.");
        BathBoats x = winding();
        Check.due("the winding way", x.tow(0, 3, 8), 100 * 23);
        Check.due("its first step", x.towStep(0, 3, 8), 1);
        Check.due("pull that is short by one", x.pull(0, 3, 8, 2299), 2200);
        Check.due("where it is", 4 * x.boat(0, 1) + x.boat(0, 0), 34);
        x.undo();
        Check.due("pull of the whole way", x.pull(0, 3, 8, 2300), 2300);
        Check.due("where it is", 4 * x.boat(0, 1) + x.boat(0, 0), 35);
        BathBoats wide = Check.bath("bath 10 10;boat 0 0 9 9;");
        for (int cell = 0; cell < 100; cell++) {
            wide.dropSoap(cell % 10, cell / 10, 99);
        }
        Check.due("through a bath full of soap", wide.tow(0, 9, 9), 1800);
        Check.due("its first step", wide.towStep(0, 9, 9), 1);
        Check.due("pull through it", wide.pull(0, 9, 9, 9999), 1800);
        Check.due("and back", wide.tow(0, 0, 0), 1800);
        Check.due("the first step back", wide.towStep(0, 0, 0), 89);
    }

    private static void walledIn() {
        Check.sentence("promise 21", "NONE if it is not afloat, is at the target, or there is no route");
        BathBoats x = Check.bath("bath 3 3;boat 1 1 9 9;boat 1 0 9 9;boat 0 1 9 9;boat 2 1 9 9;boat 1 2 9 9;");
        for (int cell = 0; cell < 9; cell++) {
            Check.due("towStep to " + cell, x.towStep(0, cell % 3, cell / 3), -1);
            Check.due("tow to " + cell, x.tow(0, cell % 3, cell / 3), cell == 4 ? 0 : -1);
        }
        Check.due("towStep of another", x.towStep(1, 0, 0), 0);
    }

    private static void elements() {
        Check.sentence("promises 20 and 21", "if there is no such boat or cell");
        BathBoats x = sunk();
        Check.due("tow to the last cell but one", x.tow(0, 3, 3), 6);
        for (int b = 0; b < 2; b++) {
            int boat = b;
            for (int[] c : new int[][] {{-1, 0}, {5, 0}, {0, -1}, {0, 4}, {5, 3}, {4, 4}, {-1, 1}, {5, -1}}) {
                Check.noElement("tow of " + b + " to " + c[0] + ", " + c[1], x, () -> x.tow(boat, c[0], c[1]));
                Check.noElement("towStep of " + b + " to " + c[0] + ", " + c[1], x, () -> x.towStep(boat, c[0], c[1]));
                Check.noElement("pull of " + b + " to " + c[0] + ", " + c[1], x, () -> x.pull(boat, c[0], c[1], 9));
            }
            for (int n : Check.FAR_NUMBERS) {
                Check.noElement("tow of " + b + " to column " + n, x, () -> x.tow(boat, n, 1));
                Check.noElement("tow of " + b + " to row " + n, x, () -> x.tow(boat, 1, n));
                Check.noElement("towStep of " + b + " to row " + n, x, () -> x.towStep(boat, 1, n));
                Check.noElement("pull of " + b + " to row " + n, x, () -> x.pull(boat, 1, n, 9));
            }
        }
        for (int n : new int[] {-1, 3, 12, 390451573, Integer.MAX_VALUE, Integer.MIN_VALUE}) {
            Check.noElement("tow of " + n, x, () -> x.tow(n, 0, 0));
            Check.noElement("towStep of " + n, x, () -> x.towStep(n, 0, 0));
            Check.noElement("pull of " + n, x, () -> x.pull(n, 0, 0, 9));
        }
    }

    private static void stepOfSeveral() {
        Check.sentence("promise 21", "the one with the least sum of the cost of the step and the distance from there, of several "
                + "the smallest number");
        BathBoats x = Check.bath("bath 5 5;boat 2 2 9 9;");
        int[][] due = {{0, 0, 7}, {4, 0, 7}, {0, 4, 11}, {4, 4, 13}, {2, 0, 7}, {0, 2, 11}, {4, 2, 13}, {2, 4, 17}, {2, 1, 7}};
        for (int[] d : due) {
            Check.due("towStep to " + d[0] + ", " + d[1], x.towStep(0, d[0], d[1]), d[2]);
        }
        x.dropSoap(2, 1, 1);
        Check.due("towStep past a little soap above", x.towStep(0, 0, 0), 11);
        x.dropSoap(1, 2, 1);
        Check.due("towStep with as much to the left", x.towStep(0, 0, 0), 7);
        x.dropSoap(1, 1, 50);
        Check.due("towStep with much between", x.towStep(0, 0, 0), 7);
        Check.due("the way with much between", x.tow(0, 0, 0), 5);
        x.dropSoap(2, 0, 1);
        Check.due("towStep to the left then", x.towStep(0, 0, 0), 11);
    }

    private static void stepOrNone() {
        Check.sentence("promise 21", "is at the target");
        BathBoats x = sunk();
        Check.due("towStep where it is", x.towStep(0, 0, 0), -1);
        Check.due("towStep of a sunk boat", x.towStep(1, 0, 0), -1);
        Check.due("towStep of a sunk boat where it is", x.towStep(1, 4, 3), -1);
        Check.due("towStep to a boat", x.towStep(0, 2, 2), -1);
        Check.due("towStep to the next cell", x.towStep(0, 0, 1), 5);
        BathBoats drain = Check.bath("bath 3 3;drain 1 0 9 1;boat 0 0 9 9;boat 2 2 10 9;");
        Check.due("towStep to an open drain beside it", drain.towStep(0, 1, 0), -1);
        Check.due("towStep of a greater boat", drain.towStep(1, 1, 0), 5);
    }

    private static void pullBudget() {
        Check.sentence("promise 33", "until it is there or the costs of all steps together would exceed budget");
        String text = "bath 5 3;boat 0 1 9 99;boat 0 0 9 99;boat 0 2 9 99;soap 1 1 4;soap 2 1 1;";
        Check.due("the whole way", Check.bath(text).tow(0, 4, 1), 5 + 2 + 1 + 1);
        int[] spent = {0, 0, 0, 0, 0, 5, 5, 7, 8, 9, 9, 9};
        int[] column = {0, 0, 0, 0, 0, 1, 1, 2, 3, 4, 4, 4};
        for (int budget = 0; budget < spent.length; budget++) {
            BathBoats x = Check.bath(text);
            Check.due("pull(0, 4, 1, " + budget + ")", x.pull(0, 4, 1, budget), spent[budget]);
            Check.due("its cell", 5 * x.boat(0, 1) + x.boat(0, 0), 5 + column[budget]);
            Check.due("boatAt of its cell", x.boatAt(column[budget], 1), 0);
            Check.due("boatAt of the cell where it was", x.boatAt(0, 1), column[budget] == 0 ? 0 : -1);
        }
    }

    private static void pullBudgetRange() {
        Check.sentence("promise 33", "0 to 9999");
        BathBoats x = sunk();
        for (int budget : new int[] {-1, 10000, Integer.MAX_VALUE, Integer.MIN_VALUE}) {
            Check.badArgument("pull with " + budget, x, () -> x.pull(0, 1, 1, budget));
            Check.badArgument("pull of a sunk boat with " + budget, x, () -> x.pull(1, 1, 1, budget));
            Check.badArgument("pull without a route with " + budget, x, () -> x.pull(0, 2, 2, budget));
            Check.noElement("pull to no cell with " + budget, x, () -> x.pull(0, 5, 1, budget));
            Check.noElement("pull of no boat with " + budget, x, () -> x.pull(3, 1, 1, budget));
        }
        Check.due("pull with 0", x.pull(0, 1, 1, 0), 0);
        Check.due("pull with 9999", x.pull(0, 1, 1, 9999), 2);
    }

    private static void pullWithoutStep() {
        Check.sentence("promise 33", "its drift is 0 then, also without a step");
        BathBoats x = Check.bath("bath 5 3;boat 2 1 9 99 wet 7;");
        for (int[] c : new int[][] {{2, 1, 9999}, {2, 1, 0}, {4, 1, 0}, {4, 1, 1}}) {
            x.carry(0, 2, 1);
            x.blow(0, -30, 70);
            Check.due("pull to " + c[0] + " with " + c[2], x.pull(0, c[0], c[1], c[2]), c[0] == 4 ? c[2] : 0);
            Check.due("the drift", Math.abs(x.boat(0, 5)) + Math.abs(x.boat(0, 6)), 0);
        }
        Check.due("all else is as before", Check.boat(x, 0), "3 1 9 99 7 0 0 0 -1 0 0");
    }

    private static void pullAlong() {
        Check.sentence("promise 33", "each step to the cell that towStep tells");
        for (int budget = 0; budget < 20; budget++) {
            BathBoats x = Check.bath("bath 7 6;boat 1 1 9 99;boat 3 2 9 9;boat 3 3 9 9;soap 2 1 2;soap 1 2 3;soap 4 1 9;soap 5 4 2;"
                    + "drain 2 4 9 1;soap 3 1 1;");
            BathBoats y = Check.bath("bath 7 6;boat 1 1 9 99;boat 3 2 9 9;boat 3 3 9 9;soap 2 1 2;soap 1 2 3;soap 4 1 9;soap 5 4 2;"
                    + "drain 2 4 9 1;soap 3 1 1;");
            int spent = 0;
            for (int step = y.towStep(0, 5, 5); step >= 0; step = y.towStep(0, 5, 5)) {
                int cost = 1 + y.soap(step % 7, step / 7);
                if (spent + cost > budget) {
                    break;
                }
                spent += cost;
                y.carry(0, step % 7, step / 7);
            }
            Check.due("pull with " + budget, x.pull(0, 5, 5, budget), spent);
            Check.due("the state after pull with " + budget, Check.state(x), Check.state(y));
        }
    }

    private static void pullErrors() {
        Check.sentence("promise 33", "-2 if it is not afloat, -3 if there is no route to the target");
        BathBoats x = sunk();
        x.addBoat(1, 0, 9, 9);
        x.addBoat(0, 1, 9, 9);
        x.blow(0, 5, 6);
        Check.unchanged("pull of a sunk boat", x, () -> x.pull(1, 0, 2, 9), -2);
        Check.unchanged("pull of a sunk boat to its cell", x, () -> x.pull(1, 4, 3, 9), -2);
        Check.unchanged("pull of a sunk boat where no route is", x, () -> x.pull(1, 0, 0, 0), -2);
        Check.unchanged("pull of a boat that is shut in", x, () -> x.pull(0, 4, 3, 9999), -3);
        Check.unchanged("pull of a boat that is shut in, with 0", x, () -> x.pull(0, 4, 3, 0), -3);
        Check.unchanged("pull to a boat", x, () -> x.pull(2, 0, 0, 9), -3);
        Check.due("pull of the one that is shut in to its cell", x.pull(0, 0, 0, 0), 0);
    }

    private static void pullRecorded() {
        Check.sentence("Operations", "Every successful call is recorded, even if it changes nothing.");
        BathBoats x = Check.bath("bath 5 3;boat 2 1 9 99;");
        String before = Check.state(x);
        Check.due("pull to where it is", x.pull(0, 2, 1, 0), 0);
        Check.due("the state", Check.state(x), before);
        Check.due("undoCount()", x.undoCount(), 1);
        Check.due("pull with too little", x.pull(0, 4, 1, 0), 0);
        Check.due("undoCount()", x.undoCount(), 2);
        x.blow(0, 9, 9);
        Check.due("pull", x.pull(0, 4, 2, 9999), 3);
        x.undo();
        Check.due("the boat after undo", Check.boat(x, 0), "2 1 9 99 0 9 9 0 -1 0 0");
        Check.due("boatAt after undo", x.boatAt(4, 2), -1);
        Check.due("boatAt after undo", x.boatAt(2, 1), 0);
    }

    private static void pullThroughOwnCell() {
        Check.sentence("Towing", "The cell of the boat itself is free for it if it is entered again.");
        BathBoats x = Check.bath("bath 5 3;drain 2 1 9 1;boat 2 1 9 99;");
        Check.due("pull off an open drain", x.pull(0, 3, 1, 9), 1);
        Check.due("tow round it", x.tow(0, 1, 1), 4);
        Check.due("pull back into it", x.pull(0, 2, 1, 9), -3);
    }
}
