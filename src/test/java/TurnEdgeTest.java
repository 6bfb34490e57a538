/** Promise 43 with "A turn": each sentence that names a boundary, with a test of its own. */
public final class TurnEdgeTest {
    public static void main(String[] args) {
        turnsRange();
        turnsAnswer();
        timeGrows();
        levelLimits();
        levelOfWorkingDrains();
        aboveZero();
        bothComponentsFirst();
        flowAsItIsNow();
        roundsTowardsZero();
        limitedDrift();
        moves();
        lessOrMore();
        outside();
        outsideAlone();
        collisionShares();
        collisionLimit();
        collisionOnTheWay();
        collisionOfNone();
        wetnessBySoap();
        sinks();
        sinksBeforeDrained();
        drainedBySize();
        drainedByOpen();
        spreadsFromFour();
        spreadsAtTheEdge();
        spreadsAtOnce();
        atMost99();
        fullOfSoap();
        Check.end();
    }

    private static void turnsRange() {
        Check.sentence("promise 43", "1 to 200");
        BathBoats x = Check.bath("bath 5 5;boat 0 0 1 999;");
        for (int turns : new int[] {0, -1, 201, 300, Integer.MAX_VALUE, Integer.MIN_VALUE}) {
            Check.badArgument("turn(" + turns + ")", x, () -> x.turn(turns));
        }
        Check.due("turn(1)", x.turn(1), 0);
        Check.due("the time", x.size(8), 1);
        Check.due("turn(200)", x.turn(200), 0);
        Check.due("the time", x.size(8), 201);
        Check.due("undoCount()", x.undoCount(), 2);
    }

    private static void turnsAnswer() {
        Check.sentence("promise 43", "Returns how many boats sank or were drained in them.");
        BathBoats x = Check.bath("bath 5 5 level 0;drain 4 4 9 1;boat 0 0 1 1;boat 4 4 1 9;boat 1 1 1 1 wet 1;boat 2 2 1 2;"
                + "boat 3 3 1 201;boat 3 0 1 999;");
        Check.due("turn(1)", x.turn(1), 2);
        Check.due("turn(2)", x.turn(2), 2);
        Check.due("turn(198)", x.turn(198), 0);
        Check.due("turn(1)", x.turn(1), 1);
        Check.due("turn(200)", x.turn(200), 0);
        Check.due("turn(1) without boats", new BathBoats().turn(1), 0);
        BathBoats twelve = StateEdgeTest.full();
        for (int i = 0; i < 9; i++) {
            twelve.turn(1);
            twelve.undo();
        }
        int all = 0;
        for (int i = 0; i < 8; i++) {
            all += twelve.turn(200);
        }
        Check.due("the sum of what turn tells of 12 boats", all, 12);
    }

    private static void timeGrows() {
        Check.sentence("A turn", "The time grows by 1.");
        BathBoats x = Check.bath("bath 3 3 level 0;");
        x.turn(1);
        x.turn(3);
        Check.due("the time", x.size(8), 4);
        x.undo();
        Check.due("the time after undo", x.size(8), 1);
    }

    private static int levelAfter(String text) {
        BathBoats x = Check.bath(text);
        x.turn(1);
        return x.size(9);
    }

    private static void levelLimits() {
        Check.sentence("A turn", "The LEVEL grows by the rates of all taps, less the rates of all drains that work, in one sum; "
                + "then it is limited to 0 to 1000.");
        Check.due("up to 1000", levelAfter("bath 3 3 level 901;tap 0 0 99;"), 1000);
        Check.due("up to 999", levelAfter("bath 3 3 level 901;tap 0 0 98;"), 999);
        Check.due("not above 1000", levelAfter("bath 3 3 level 902;tap 0 0 99;"), 1000);
        Check.due("from 1000", levelAfter("bath 3 3 level 1000;tap 0 0 99;tap 1 1 99;"), 1000);
        Check.due("down to 0", levelAfter("bath 3 3 level 99;drain 0 0 9 99;"), 0);
        Check.due("down to 1", levelAfter("bath 3 3 level 100;drain 0 0 9 99;"), 1);
        Check.due("not below 0", levelAfter("bath 3 3 level 98;drain 0 0 9 99;"), 0);
        Check.due("from 0", levelAfter("bath 3 3 level 0;drain 0 0 9 99;drain 1 1 9 99;"), 0);
        Check.due("more than 1000 between", levelAfter("bath 3 3 level 950;tap 0 0 99;tap 1 1 99;drain 2 2 9 99;drain 2 1 9 60;"), 989);
        Check.due("less than 0 between", levelAfter("bath 3 3 level 50;drain 2 2 9 99;drain 2 1 9 60;tap 0 0 99;tap 1 1 99;"), 89);
        Check.due("by all", levelAfter("bath 5 5 level 0;tap 0 0 99;tap 1 0 99;tap 2 0 99;tap 3 0 99;tap 4 0 99;"), 495);
        Check.due("by all", levelAfter("bath 5 5 level 999;drain 0 0 9 99;drain 1 0 9 99;drain 2 0 9 99;drain 3 0 9 99;drain 4 0 9 99;"), 504);
        Check.due("by nothing", levelAfter("bath 5 5 level 999;drain 0 0 9 0;tap 1 0 0;"), 999);
    }

    private static void levelOfWorkingDrains() {
        Check.sentence("The bath", "A drain works if it is open and not clogged.");
        Check.due("a boat of its size", levelAfter("bath 3 3 level 500;drain 1 1 9 50;boat 1 1 9 9;"), 450);
        Check.due("a greater boat", levelAfter("bath 3 3 level 500;drain 1 1 9 50;boat 1 1 10 9;"), 500);
        Check.due("a closed drain", levelAfter("bath 3 3 level 500;drain 1 1 9 0;boat 1 1 1 9;"), 500);
    }

    private static void aboveZero() {
        Check.sentence("A turn", "If the LEVEL is above 0, each boat that is afloat drifts, by number.");
        String boat = "boat 0 0 10 99;";
        BathBoats dry = Check.bath("bath 3 3 level 9 wind 99 99;drain 2 2 9 9;" + boat);
        dry.blow(0, 150, 150);
        dry.turn(1);
        Check.due("the boat at LEVEL 0", Check.boat(dry, 0), "0 0 10 99 1 150 150 0 -1 0 0");
        BathBoats wet = Check.bath("bath 3 3 level 10 push 0;drain 2 2 9 9;" + boat);
        wet.blow(0, 150, 150);
        wet.turn(1);
        Check.due("the boat at LEVEL 1", Check.boat(wet, 0), "1 1 10 99 1 50 50 0 -1 2 0");
        BathBoats risen = Check.bath("bath 3 3 level 0 push 0;tap 2 2 1;" + boat);
        risen.blow(0, 150, 150);
        risen.turn(1);
        Check.due("the boat at LEVEL 0 that grows to 1", Check.boat(risen, 0), "1 1 10 99 1 50 50 0 -1 2 0");
    }

    private static void bothComponentsFirst() {
        Check.sentence("A turn", "First both components of its drift change, both by the flow in its cell as it is now");
        BathBoats x = Check.bath("bath 5 5 level 549 push 0;drain 2 0 99 49;boat 1 1 5 99;");
        x.turn(1);
        // 12.25 * 500 / 50 = 122.5 in both directions; in the cell to the right it would be 49 * 500 / 50
        Check.due("boat 0", Check.boat(x, 0), "2 0 5 99 1 22 -22 2 1 2 0");
        BathBoats soap = Check.bath("bath 5 5 push 9;boat 1 1 9 99;soap 0 1 99;soap 2 0 50;");
        soap.turn(1);
        // the soap above counts where the boat was: 9 * 99 to the right, limited, and none above
        Check.due("boat 0 by soap", Check.boat(soap, 0), "2 1 9 99 1 200 0 0 -1 1 0");
    }

    private static void flowAsItIsNow() {
        Check.sentence("A turn", "(the boats before it may already have clogged a drain or set one free)");
        BathBoats clogged = Check.bath("bath 5 5 level 1000 push 0;drain 2 2 9 50;boat 1 2 10 99;boat 2 4 10 99;");
        clogged.blow(0, 100, 0);
        clogged.turn(1);
        Check.due("boat 0 is in the drain's cell", clogged.boatAt(2, 2), 0);
        Check.due("the drift of boat 1 behind it", clogged.boat(1, 6), 0);
        Check.due("the LEVEL", clogged.size(9), 950);
        clogged.blow(0, 100, 0);
        clogged.turn(1);
        Check.due("boat 0 is beside the drain", clogged.boatAt(3, 2), 0);
        // 50 / 4 * 950 / 100
        Check.due("the drift of boat 1, freed", clogged.boat(1, 6), -(118 - 100));
        Check.due("the LEVEL by the clogged drain", clogged.size(9), 950);
        BathBoats before = Check.bath("bath 5 5 level 1000 push 0;drain 2 2 9 50;boat 2 4 10 99;boat 1 2 10 99;");
        before.blow(1, 100, 0);
        before.turn(1);
        Check.due("the drift of boat 0 before it", before.boat(0, 6), -(118 - 100));
    }

    private static void roundsTowardsZero() {
        Check.sentence("Terms", "divisions of integers round towards 0");
        // 990 / 16 = 61.9, 70 / 16 = 4.4
        BathBoats x = Check.bath("bath 5 5 push 0 wind -99 -7;boat 2 2 16 99;boat 4 4 11 99;");
        x.turn(1);
        Check.due("boat 0", Check.boat(x, 0), "2 2 16 99 1 -61 -4 0 -1 0 0");
        x.setWind(1, -1);
        x.undo();
        x.setWind(99, 7);
        x.turn(1);
        Check.due("boat 0 back", Check.boat(x, 0), "2 2 16 99 2 0 0 0 -1 0 0");
        BathBoats one = Check.bath("bath 5 5 push 0 wind 1 -1;boat 2 2 10 99;boat 0 0 11 99;");
        one.turn(1);
        Check.due("boat 0, 10 / 10", Check.boat(one, 0), "2 2 10 99 1 1 -1 0 -1 0 0");
        Check.due("boat 1, 10 / 11", Check.boat(one, 1), "0 0 11 99 1 0 0 0 -1 0 0");
        // -250 * 8 / 58 = -34.5
        BathBoats hit = Check.bath("bath 5 5 push 0;boat 3 2 8 99;boat 2 2 50 99;");
        hit.blow(0, -250, 0);
        hit.turn(1);
        Check.due("boat 1 hit from the right", hit.boat(1, 5), -34);
    }

    private static void limitedDrift() {
        Check.sentence("A turn", "Each component is then limited to -300 to 300.");
        int[][] cases = {{290, 1, 200}, {291, 1, 200}, {289, 1, 199}, {-290, -1, -200}, {-291, -1, -200}, {-289, -1, -199}};
        for (int[] c : cases) {
            BathBoats x = Check.bath("bath 9 9 push 0 wind " + c[1] * 10 + " " + -c[1] * 10 + ";boat 4 4 10 99;");
            x.blow(0, c[0], -c[0]);
            x.turn(1);
            Check.due("x from " + c[0] + " by 10", x.boat(0, 5), c[2]);
            Check.due("y from " + -c[0] + " by 10", x.boat(0, 6), -c[2]);
        }
        // at the border nothing is left of a component that would lead out, however great it was
        BathBoats border = Check.bath("bath 3 3 wind 99 99;boat 0 0 1 99;");
        border.turn(2);
        Check.due("two storms", Check.boat(border, 0), "2 2 1 99 2 200 200 0 -1 4 0");
        border.turn(1);
        Check.due("a third one", Check.boat(border, 0), "2 2 1 99 3 0 0 0 -1 4 0");
    }

    private static String blown(String place, int dx, int dy) {
        BathBoats x = Check.bath("bath 5 5 push 0;boat " + place + " 10 99;");
        x.blow(0, dx, dy);
        x.turn(1);
        return Check.boat(x, 0);
    }

    private static void moves() {
        Check.sentence("A turn", "if the component is 100 or more, the next cell is the one to the right (below); if it is -100 "
                + "or less, the one to the left (above); otherwise it does not move in this direction");
        Check.due("99 to the right", blown("2 2", 99, 0), "2 2 10 99 1 99 0 0 -1 0 0");
        Check.due("100 to the right", blown("2 2", 100, 0), "3 2 10 99 1 0 0 0 -1 1 0");
        Check.due("101 to the right", blown("2 2", 101, 0), "3 2 10 99 1 1 0 0 -1 1 0");
        Check.due("99 to the left", blown("2 2", -99, 0), "2 2 10 99 1 -99 0 0 -1 0 0");
        Check.due("100 to the left", blown("2 2", -100, 0), "1 2 10 99 1 0 0 0 -1 1 0");
        Check.due("101 to the left", blown("2 2", -101, 0), "1 2 10 99 1 -1 0 0 -1 1 0");
        Check.due("99 down", blown("2 2", 0, 99), "2 2 10 99 1 0 99 0 -1 0 0");
        Check.due("100 down", blown("2 2", 0, 100), "2 3 10 99 1 0 0 0 -1 1 0");
        Check.due("99 up", blown("2 2", 0, -99), "2 2 10 99 1 0 -99 0 -1 0 0");
        Check.due("100 up", blown("2 2", 0, -100), "2 1 10 99 1 0 0 0 -1 1 0");
        Check.due("no drift", blown("2 2", 0, 0), "2 2 10 99 1 0 0 0 -1 0 0");
        Check.due("100 in both", blown("2 2", -100, 100), "1 3 10 99 1 0 0 0 -1 2 0");
    }

    private static void lessOrMore() {
        Check.sentence("A turn", "its component becomes 100 less if it was positive, 100 more if it was negative");
        Check.due("300 and -300", blown("2 2", 300, -300), "3 1 10 99 1 200 -200 0 -1 2 0");
        Check.due("-199 and 199", blown("2 2", -199, 199), "1 3 10 99 1 -99 99 0 -1 2 0");
        Check.due("-200 and 200", blown("2 2", -200, 200), "1 3 10 99 1 -100 100 0 -1 2 0");
        BathBoats x = Check.bath("bath 7 7 push 0;boat 3 3 10 99;");
        x.blow(0, 300, -250);
        x.turn(4);
        Check.due("a way to its end", Check.boat(x, 0), "6 1 10 99 4 0 -50 0 -1 5 0");
    }

    private static void outside() {
        Check.sentence("A turn", "If the next cell is outside the bath, the component becomes 0.");
        Check.due("right", blown("4 2", 100, 99), "4 2 10 99 1 0 99 0 -1 0 0");
        Check.due("left", blown("0 2", -300, -99), "0 2 10 99 1 0 -99 0 -1 0 0");
        Check.due("above", blown("2 0", 99, -100), "2 0 10 99 1 99 0 0 -1 0 0");
        Check.due("below", blown("2 4", -99, 300), "2 4 10 99 1 -99 0 0 -1 0 0");
        Check.due("right and below", blown("4 4", 300, 300), "4 4 10 99 1 0 0 0 -1 0 0");
        Check.due("left and above", blown("0 0", -100, -100), "0 0 10 99 1 0 0 0 -1 0 0");
        Check.due("right, and then up", blown("4 4", 300, -300), "4 3 10 99 1 0 -200 0 -1 1 0");
        Check.due("into the last column", blown("3 2", 100, 0), "4 2 10 99 1 0 0 0 -1 1 0");
        Check.due("into the first column", blown("1 2", -100, 0), "0 2 10 99 1 0 0 0 -1 1 0");
        Check.due("into the first row", blown("2 1", 0, -100), "2 0 10 99 1 0 0 0 -1 1 0");
        Check.due("into the last row", blown("2 3", 0, 100), "2 4 10 99 1 0 0 0 -1 1 0");
    }

    private static void outsideAlone() {
        Check.sentence("The bath", "Two cells are adjacent if one is directly left of, right of, above or below the other.");
        // the last cell of a row and the first of the next are neighbours by number alone
        BathBoats x = Check.bath("bath 5 5 push 0;boat 4 1 10 99;boat 0 2 10 99;boat 0 3 10 99;boat 4 2 10 99;");
        x.blow(0, 200, 0);
        x.blow(2, -200, 0);
        x.turn(1);
        for (int b = 0; b < 4; b++) {
            Check.due("the drift and the hits of boat " + b, x.boat(b, 5) + x.boat(b, 10) + x.boat(b, 9), 0);
        }
    }

    private static BathBoats collide(int weight, int other, int drift, int otherDrift) {
        BathBoats x = Check.bath("bath 9 3 push 0;boat 3 1 " + weight + " 99;boat 4 1 " + other + " 99;");
        x.blow(0, drift, 0);
        x.blow(1, otherDrift, 0);
        x.turn(1);
        return x;
    }

    private static void collisionShares() {
        Check.sentence("A turn", "the same component of the other boat grows by (the component times the weight of this boat, "
                + "divided by the sum of both weights)");
        int[][] cases = {{99, 99, 100, 50}, {1, 99, 100, 1}, {1, 99, 99, -1}, {1, 99, 199, 1}, {1, 99, 200, 2}, {1, 98, 300, 3},
            {99, 1, 100, 99}, {50, 50, 199, 99}, {10, 20, 101, 33}};
        for (int[] c : cases) {
            BathBoats x = collide(c[0], c[1], c[2], 0);
            String name = "of weights " + c[0] + " and " + c[1] + " by " + c[2];
            if (c[3] < 0) {
                Check.due("no collision " + name, x.boat(0, 10) + x.boat(1, 5), 0);
            } else {
                Check.due("the other's drift " + name, x.boat(1, 5), c[3]);
                Check.due("the hits " + name, x.boat(0, 10), 1);
                Check.due("the own drift " + name, x.boat(0, 5), 0);
                Check.due("the own moves " + name, x.boat(0, 9), 0);
                Check.due("the other's hits " + name, x.boat(1, 10), 0);
            }
        }
    }

    private static void collisionLimit() {
        Check.sentence("A turn", "and is limited to -300 to 300, and the component of this boat becomes 0");
        // the other boat moves then, by a drift that was limited first
        Check.due("250 and 49", collide(50, 50, 98 + 2, 249).boat(1, 5), 299 - 100);
        Check.due("250 and 50", collide(50, 50, 100, 250).boat(1, 5), 300 - 100);
        Check.due("250 and 51", collide(50, 50, 102, 250).boat(1, 5), 300 - 100);
        Check.due("300 and 297", collide(99, 1, 300, 300).boat(1, 5), 300 - 100);
        Check.due("-60 and 50", collide(50, 50, 100, -60).boat(1, 5), -10);
        BathBoats left = Check.bath("bath 9 3 push 0;boat 4 1 50 99;boat 3 1 50 99;");
        left.blow(0, -110, 0);
        left.blow(1, -250, 0);
        left.turn(1);
        Check.due("-250 and -55", left.boat(1, 5), -300 + 100);
        BathBoats earlier = Check.bath("bath 3 3 push 0;boat 1 1 50 99;boat 1 2 50 99;");
        earlier.blow(0, 0, -50);
        earlier.blow(1, 0, -300);
        earlier.turn(1);
        Check.due("the drift of a boat whose move is over", Check.boat(earlier, 0), "1 1 50 99 1 0 -200 0 -1 0 0");
    }

    private static void collisionOnTheWay() {
        Check.sentence("A turn", "Then the boat moves, first in direction x, then in direction y");
        BathBoats x = Check.bath("bath 5 5 push 0;boat 1 1 10 99;boat 1 2 10 99;boat 2 2 10 99;");
        x.blow(0, 100, 100);
        x.turn(1);
        Check.due("boat 0 hits boat 2, below the cell that it moved to", Check.boat(x, 0), "2 1 10 99 1 0 0 0 -1 1 1");
        Check.due("boat 1", Check.boat(x, 1), "1 2 10 99 1 0 0 0 -1 0 0");
        Check.due("boat 2", Check.boat(x, 2), "2 2 10 99 1 0 50 0 -1 0 0");
        BathBoats two = Check.bath("bath 5 5 push 0;boat 1 1 10 99;boat 2 1 30 99;boat 1 2 30 99;");
        two.blow(0, 200, 240);
        two.turn(1);
        Check.due("boat 0 hits two", Check.boat(two, 0), "1 1 10 99 1 0 0 0 -1 0 2");
        Check.due("boat 1", Check.boat(two, 1), "2 1 30 99 1 50 0 0 -1 0 0");
        Check.due("boat 2", Check.boat(two, 2), "1 2 30 99 1 0 60 0 -1 0 0");
    }

    private static void collisionOfNone() {
        Check.sentence("A turn", "If another boat is afloat in the next cell, the boats collide");
        BathBoats x = Check.bath("bath 5 3 level 50 push 0;drain 3 1 99 1;boat 1 1 10 99;boat 2 1 10 1 wet 1;boat 3 1 10 99;");
        x.turn(1);
        Check.due("boats that ended", x.size(6) * 10 + x.size(7), 11);
        x.setDrain(0, 0);
        x.blow(0, 200, 0);
        x.turn(2);
        Check.due("boat 0 over the cells of a sunk and a drained one", Check.boat(x, 0), "3 1 10 99 3 0 0 0 -1 2 0");
    }

    private static void wetnessBySoap() {
        Check.sentence("A turn", "its wetness grows by 1 + soap / 10, soap being that in its cell");
        int[][] cases = {{0, 1}, {1, 1}, {9, 1}, {10, 2}, {19, 2}, {20, 3}, {89, 9}, {90, 10}, {99, 10}};
        for (int[] c : cases) {
            BathBoats x = Check.bath("bath 3 3 level 0;boat 1 1 9 99 wet 5;");
            if (c[0] > 0) {
                x.dropSoap(1, 1, c[0]);
            }
            x.turn(1);
            Check.due("the wetness by " + c[0], x.boat(0, 4), 5 + c[1]);
        }
        // the soap of the cell that it moved to, before it spreads
        BathBoats moved = Check.bath("bath 3 3 push 0;boat 0 1 9 99;soap 1 1 40;soap 0 1 99;");
        moved.blow(0, 100, 0);
        moved.turn(1);
        Check.due("the wetness after a move", moved.boat(0, 4), 5);
    }

    private static void sinks() {
        Check.sentence("A turn", "If the wetness is then greater than its strength, the boat is sunk.");
        for (int strength : new int[] {1, 2, 500, 999}) {
            BathBoats x = Check.bath("bath 3 3 level 0;boat 1 1 9 " + strength + " wet " + (strength - 1) + ";");
            Check.due("turn to the strength of " + strength, x.turn(1), 0);
            Check.due("the wetness", x.boat(0, 4), strength);
            Check.due("turn beyond the strength", x.turn(1), 1);
            Check.due("the wetness", x.boat(0, 4), strength + 1);
            Check.due("the state", x.boat(0, 7), 1);
            x.turn(9);
            Check.due("the wetness later", x.boat(0, 4), strength + 1);
        }
        BathBoats soap = Check.bath("bath 3 3 level 0;boat 1 1 9 999 wet 999;soap 1 1 99;");
        soap.turn(1);
        Check.due("the greatest wetness", soap.boat(0, 4), 1009);
    }

    private static void sinksBeforeDrained() {
        Check.sentence("A turn", "Otherwise, if there is an open drain in its cell");
        BathBoats x = Check.bath("bath 3 3 level 0;drain 0 0 9 1;drain 2 2 9 1;boat 0 0 9 9 wet 9;boat 2 2 9 9 wet 8;");
        Check.due("turn(1)", x.turn(1), 2);
        Check.due("the state of the one that is too wet", x.boat(0, 7), 1);
        Check.due("the boats of its drain", x.drain(0, 5), 0);
        Check.due("the state of the one that is just dry enough", x.boat(1, 7), 2);
        Check.due("the boats of its drain", x.drain(1, 5), 1);
    }

    private static void drainedBySize() {
        Check.sentence("A turn", "and the weight of the boat is not greater than the size of the drain, the boat is drained by it");
        int[][] cases = {{1, 1, 2}, {1, 2, 0}, {50, 49, 2}, {50, 50, 2}, {50, 51, 0}, {99, 99, 2}, {98, 99, 0}};
        for (int[] c : cases) {
            BathBoats x = Check.bath("bath 3 3 level 0;drain 1 1 " + c[0] + " 1;boat 1 1 " + c[1] + " 99;");
            x.turn(1);
            Check.due("the state of weight " + c[1] + " in a drain of size " + c[0], x.boat(0, 7), c[2]);
            Check.due("how many boats it drained", x.drain(0, 5), c[2] / 2);
        }
    }

    private static void drainedByOpen() {
        Check.sentence("The bath", "it is open if its rate is above 0");
        BathBoats x = Check.bath("bath 3 3 level 0;drain 1 1 9 0;boat 1 1 9 99;");
        Check.due("turn(1) of a closed drain", x.turn(1), 0);
        x.setDrain(0, 1);
        Check.due("turn(1) of rate 1", x.turn(1), 1);
        x.addBoat(1, 1, 9, 9);
        x.addBoat(1, 0, 9, 9);
        Check.due("turn(1) with another boat", x.turn(1), 1);
        Check.due("how many boats it drained", x.drain(0, 5), 2);
        x.undo();
        Check.due("how many after undo", x.drain(0, 5), 1);
    }

    private static String spread(String clauses) {
        BathBoats x = Check.bath("bath 3 3 level 0;" + clauses);
        x.turn(1);
        return Check.soaps(x);
    }

    private static void spreadsFromFour() {
        Check.sentence("A turn", "each cell that has at least 4 gives 1 to each adjacent cell");
        Check.due("3", spread("soap 1 1 3;"), "0 0 0,0 3 0,0 0 0");
        Check.due("4", spread("soap 1 1 4;"), "0 1 0,1 0 1,0 1 0");
        Check.due("5", spread("soap 1 1 5;"), "0 1 0,1 1 1,0 1 0");
    }

    private static void spreadsAtTheEdge() {
        Check.sentence("The bath", "Two cells are adjacent if one is directly left of, right of, above or below the other.");
        Check.due("in the first cell", spread("soap 0 0 4;"), "2 1 0,1 0 0,0 0 0");
        Check.due("in the last cell", spread("soap 2 2 4;"), "0 0 0,0 0 1,0 1 2");
        Check.due("in the first row", spread("soap 1 0 4;"), "1 1 1,0 1 0,0 0 0");
        Check.due("at the left border", spread("soap 0 1 4;"), "1 0 0,1 1 0,1 0 0");
        Check.due("at the right border", spread("soap 2 1 4;"), "0 0 1,0 1 1,0 0 1");
        Check.due("in the corners of 3", spread("soap 0 0 3;soap 2 0 3;soap 0 2 3;soap 2 2 3;"), "3 0 3,0 0 0,3 0 3");
    }

    private static void spreadsAtOnce() {
        Check.sentence("A turn", "Soap spreads in all cells at the same time");
        Check.due("3 that becomes 4", spread("soap 0 0 4;soap 1 0 3;"), "2 4 0,1 0 0,0 0 0");
        Check.due("4 that becomes 3", spread("soap 1 0 4;soap 1 1 4;"), "1 2 1,1 1 1,0 1 0");
        Check.due("3 before 4", spread("soap 2 1 3;soap 2 2 4;"), "0 0 0,0 0 4,0 1 2");
    }

    private static void atMost99() {
        Check.sentence("A turn", "A cell then has what it had, less what it gave, plus what it got, at most 99.");
        // a cell gives one to each cell that it can get one from, so it never gains when it is full
        Check.due("99 in the middle of 99", spread("soap 1 1 99;soap 1 0 99;soap 0 1 99;soap 2 1 99;soap 1 2 99;"),
                "2 97 2,97 99 97,2 97 2");
        Check.due("99 alone", spread("soap 1 1 99;"), "0 1 0,1 95 1,0 1 0");
        Check.due("99 in a corner", spread("soap 0 0 99;soap 1 0 99;"), "98 97 1,1 1 0,0 0 0");
    }

    private static void fullOfSoap() {
        Check.sentence("A turn", "less what it gave, plus what it got");
        BathBoats x = Check.bath("bath 10 10 level 0;boat 0 0 1 999;");
        for (int cell = 0; cell < 100; cell++) {
            x.dropSoap(cell % 10, cell / 10, 99);
        }
        x.turn(1);
        Check.due("all soap after a turn", x.size(12), 9900);
        x.wipe(9, 9);
        x.turn(200);
        Check.due("all soap after many turns", x.size(12), 9801);
    }
}
