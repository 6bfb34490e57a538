import java.util.function.IntFunction;

/** Promises 5 to 12, 17 to 19, 29 and 30: each sentence that names a boundary, with a test of its own. */
public final class StateEdgeTest {
    private static final String SOME = "bath 5 4 level 0;drain 4 3 9 1;tap 1 1 5;boat 0 0 1 1;boat 1 2 1 50;boat 4 3 9 9;"
            + "soap 1 2 5;soap 4 3 6;";

    public static void main(String[] args) {
        sizeRange();
        sizeEmpty();
        sizeFull();
        sizeTime();
        boatRange();
        endTime();
        keptForEver();
        drainRange();
        drainOpen();
        drainClogged();
        tapRange();
        cellRange();
        cellNumbers();
        cellSoap();
        boatAtEmpty();
        afloatRange();
        endedRange();
        endedOrder();
        nearestBounds();
        softestBounds();
        driesOutBounds();
        softnessBounds();
        shareBounds();
        Check.end();
    }

    private static void noSuch(String name, BathBoats x, IntFunction<Object> call, int... numbers) {
        for (int n : numbers) {
            Check.noElement(name + " of " + n, x, () -> call.apply(n));
        }
        for (int n : Check.FAR_NUMBERS) {
            Check.noElement(name + " of " + n, x, () -> call.apply(n));
        }
    }

    /** A bath of the greatest size with all that it can hold, twelve boats in the last cells. */
    static BathBoats full() {
        StringBuilder text = new StringBuilder("bath 10 10 level 1000 push 9 wind -99 99;");
        for (int i = 0; i < 5; i++) {
            text.append("drain ").append(i).append(" 0 99 99;tap ").append(i).append(" 1 99;");
        }
        for (int b = 0; b < 12; b++) {
            text.append("boat ").append((99 - b) % 10).append(' ').append((99 - b) / 10).append(" 99 999;");
        }
        return Check.bath(text.toString());
    }

    private static void sizeRange() {
        Check.sentence("promise 5", "if what is out of range");
        BathBoats x = Check.bath("bath 7 4 wind -6 5;");
        Check.due("size(0)", x.size(0), 7);
        Check.due("size(13)", x.size(13), -6);
        Check.due("size(14)", x.size(14), 5);
        noSuch("size", x, n -> x.size(n), -1, 15);
    }

    private static void sizeEmpty() {
        Check.sentence("promise 5, of none", "2 drains, 3 taps, 4 boats, 5 boats afloat, 6 sunk ones, 7 drained ones");
        BathBoats x = new BathBoats();
        for (int what = 2; what <= 8; what++) {
            Check.due("size(" + what + ")", x.size(what), 0);
        }
        for (int what = 11; what <= 14; what++) {
            Check.due("size(" + what + ")", x.size(what), 0);
        }
    }

    private static void sizeFull() {
        Check.sentence("promise 5, of all", "2 drains, 3 taps, 4 boats, 5 boats afloat, 6 sunk ones, 7 drained ones");
        BathBoats x = full();
        int[] due = {10, 10, 5, 5, 12, 12, 0, 0, 0, 1000, 9, 5, 0, -99, 99};
        for (int what = 0; what < due.length; what++) {
            Check.due("size(" + what + ")", x.size(what), due[what]);
        }
        Check.sentence("promise 5", "12 the sum of all soap");
        for (int cell = 0; cell < 100; cell++) {
            x.dropSoap(cell % 10, cell / 10, 99);
        }
        Check.due("the soap of a bath full of it", x.size(12), 9900);
        x.wipe(9, 9);
        Check.due("all soap but that in the last cell", x.size(12), 9801);
        x.wipe(0, 0);
        Check.due("all soap but that in the first and the last cell", x.size(12), 9702);
        BathBoats sunk = Check.bath("bath 3 3 level 0;boat 0 0 1 1 wet 1;boat 2 2 1 1 wet 1;");
        sunk.turn(1);
        Check.due("afloat when all are sunk", sunk.size(5), 0);
        Check.due("sunk when all are", sunk.size(6), 2);
        Check.due("boats when all are sunk", sunk.size(4), 2);
        BathBoats drained = Check.bath("bath 3 3 level 0;drain 0 0 1 1;drain 2 2 1 1;boat 0 0 1 9;boat 2 2 1 9;");
        drained.turn(1);
        Check.due("drained when all are", drained.size(7), 2);
        Check.due("sunk when all are drained", drained.size(6), 0);
    }

    private static void sizeTime() {
        Check.sentence("What it is", "An object is used for at most 512 calls after it has been made");
        BathBoats x = new BathBoats();
        x.addBoat(0, 0, 1, 999);
        for (int call = 2; call <= 510; call++) {
            x.turn(200);
        }
        Check.due("the time", x.size(8), 509 * 200);
        Check.due("the time at which the boat sank, by the last call", x.boat(0, 8), 1000);
    }

    private static void boatRange() {
        Check.sentence("promise 6", "if there is no such boat or what is out of range");
        BathBoats x = Check.bath(SOME);
        Check.due("boat(2, 0)", x.boat(2, 0), 4);
        Check.due("boat(2, 10)", x.boat(2, 10), 0);
        noSuch("the x", x, n -> x.boat(n, 0), -1, 3, 12);
        noSuch("boat(0, what)", x, n -> x.boat(0, n), -1, 11);
        noSuch("boat(2, what)", x, n -> x.boat(2, n), -1, 11, 12);
        Check.noElement("boat(3, 11)", x, () -> x.boat(3, 11));
        BathBoats none = new BathBoats();
        Check.noElement("boat(0, 0) without boats", none, () -> none.boat(0, 0));
        BathBoats twelve = full();
        Check.due("boat(11, 3)", twelve.boat(11, 3), 999);
        Check.noElement("boat(12, 3)", twelve, () -> twelve.boat(12, 3));
        x.turn(9);
        x.undo();
        x.addBoat(2, 2, 1, 1);
        x.undo();
        Check.noElement("boat(3, 0) after undo", x, () -> x.boat(3, 0));
    }

    private static void endTime() {
        Check.sentence("promise 6", "8 the time at which it sank or was drained (NONE if it is afloat)");
        BathBoats x = Check.bath(SOME);
        for (int b = 0; b < 3; b++) {
            Check.due("the time of boat " + b + " afloat", x.boat(b, 8), -1);
        }
        x.turn(1);
        Check.due("the time of the drained one", x.boat(2, 8), 1);
        Check.due("the time of boat 0, as wet as it is strong", x.boat(0, 8), -1);
        x.turn(1);
        Check.due("the time of the sunk one", x.boat(0, 8), 2);
        x.turn(200);
        Check.due("the time of the drained one later", x.boat(2, 8), 1);
        x.undo();
        x.undo();
        Check.due("the time of boat 0 after undo", x.boat(0, 8), -1);
        x.undo();
        Check.due("the time of boat 2 after undo", x.boat(2, 8), -1);
    }

    private static void keptForEver() {
        Check.sentence("The bath", "A boat that is sunk or drained keeps its cell and all its numbers for ever, "
                + "and has no effect on anything.");
        BathBoats x = Check.bath("bath 5 3 push 0;drain 4 1 9 1;boat 1 1 9 1 wet 1;boat 4 1 9 9;boat 0 1 9 999;");
        x.blow(0, 50, -60);
        x.blow(1, 0, -7);
        x.turn(1);
        String sunk = Check.boat(x, 0);
        String drained = Check.boat(x, 1);
        Check.due("the sunk boat", sunk, "1 1 9 1 2 50 -60 1 1 0 0");
        Check.due("the drained boat", drained, "4 1 9 9 1 0 -7 2 1 0 0");
        x.setWind(99, 99);
        x.dropSoap(1, 1, 99);
        x.turn(3);
        x.setWind(0, 0);
        x.carry(2, 0, 1);
        x.wipe(1, 1);
        Check.due("calls on the sunk boat", x.carry(0, 2, 2) + x.blow(0, 1, 1) + x.dry(0) + x.pull(0, 0, 0, 9), -8);
        Check.due("the sunk boat later", Check.boat(x, 0), sunk);
        Check.due("the drained boat later", Check.boat(x, 1), drained);
        Check.due("the way through its cell", x.tow(2, 1, 1), 1 + x.soap(1, 1));
        x.blow(2, 150, 0);
        x.setLevel(999);
        x.turn(1);
        Check.due("a boat moves over it", x.boat(2, 0), 1);
        Check.due("without a hit", x.boat(2, 10), 0);
        Check.due("addBoat upon the drained one", x.addBoat(4, 1, 9, 9), 3);
    }

    private static void drainRange() {
        Check.sentence("promise 7", "if there is no such drain or what is out of range");
        BathBoats x = Check.bath("bath 5 4;drain 4 3 9 1;drain 0 2 8 3;tap 1 1 1;tap 2 1 1;tap 3 1 1;");
        Check.due("drain(1, 1)", x.drain(1, 1), 2);
        Check.due("drain(1, 5)", x.drain(1, 5), 0);
        noSuch("the x", x, n -> x.drain(n, 0), -1, 2, 3, 5);
        noSuch("drain(0, what)", x, n -> x.drain(0, n), -1, 6);
        noSuch("drain(1, what)", x, n -> x.drain(1, n), -1, 6, 7);
        BathBoats none = new BathBoats();
        Check.noElement("drain(0, 0) without drains", none, () -> none.drain(0, 0));
        BathBoats all = full();
        Check.due("drain(4, 0)", all.drain(4, 0), 4);
        Check.noElement("drain(5, 0)", all, () -> all.drain(5, 0));
    }

    private static void drainOpen() {
        Check.sentence("The bath", "it is open if its rate is above 0");
        BathBoats x = Check.bath("bath 3 3;drain 1 1 9 0;");
        Check.due("drain(0, 4) of rate 0", x.drain(0, 4), 0);
        Check.due("size(11)", x.size(11), 0);
        Check.due("its flow", x.flow(0, 1, true), 0f);
        x.setDrain(0, 1);
        Check.due("drain(0, 4) of rate 1", x.drain(0, 4), 1);
        Check.due("size(11)", x.size(11), 1);
        Check.due("its flow", x.flow(0, 1, true), 1f);
    }

    private static void drainClogged() {
        Check.sentence("The bath", "A drain is clogged while a boat is afloat in its cell whose weight is greater than its size.");
        BathBoats x = Check.bath("bath 3 3 level 0;drain 1 1 9 5;drain 2 2 99 5;boat 0 0 9 99;boat 0 1 10 99;boat 2 2 99 99;"
                + "boat 2 0 10 1 wet 1;");
        x.carry(0, 1, 1);
        Check.due("drain(0, 4) under a boat of its size", x.drain(0, 4), 1);
        Check.due("size(11)", x.size(11), 2);
        x.carry(0, 0, 0);
        x.carry(1, 1, 1);
        Check.due("drain(0, 4) under a greater boat", x.drain(0, 4), 0);
        Check.due("size(11)", x.size(11), 1);
        Check.due("drain(1, 4) of size 99 under a boat of weight 99", x.drain(1, 4), 1);
        x.carry(1, 0, 1);
        x.carry(3, 1, 1);
        Check.due("drain(0, 4) before the boat sinks", x.drain(0, 4), 0);
        x.turn(1);
        Check.due("the state of the boat in the drain's cell", x.boat(3, 7), 1);
        Check.due("drain(0, 4) then", x.drain(0, 4), 1);
    }

    private static void tapRange() {
        Check.sentence("promise 8", "if there is no such tap or what is out of range");
        BathBoats x = Check.bath("bath 5 4;tap 4 3 9;tap 0 2 8;drain 1 1 1 1;drain 2 1 1 1;drain 3 1 1 1;");
        Check.due("tap(1, 0)", x.tap(1, 0), 0);
        Check.due("tap(1, 2)", x.tap(1, 2), 8);
        noSuch("the x", x, n -> x.tap(n, 0), -1, 2, 3, 5);
        noSuch("tap(0, what)", x, n -> x.tap(0, n), -1, 3);
        noSuch("tap(1, what)", x, n -> x.tap(1, n), -1, 3, 4);
        BathBoats none = new BathBoats();
        Check.noElement("tap(0, 0) without taps", none, () -> none.tap(0, 0));
        BathBoats all = full();
        Check.due("tap(4, 2)", all.tap(4, 2), 99);
        Check.noElement("tap(5, 2)", all, () -> all.tap(5, 2));
    }

    private static void cellRange() {
        Check.sentence("promises 9 and 10", "if there is no such cell");
        for (int[] wh : new int[][] {{3, 10}, {10, 3}, {5, 4}}) {
            int w = wh[0];
            int h = wh[1];
            BathBoats x = Check.bath("bath " + w + " " + h + ";boat " + (w - 1) + " " + (h - 1) + " 1 1;soap " + (w - 1) + " "
                    + (h - 1) + " 9;boat 0 0 1 1;soap 0 0 8;");
            Check.due("soap in the last cell", x.soap(w - 1, h - 1), 9);
            Check.due("soap in the first cell", x.soap(0, 0), 8);
            Check.due("boatAt of the last cell", x.boatAt(w - 1, h - 1), 0);
            Check.due("boatAt of the first cell", x.boatAt(0, 0), 1);
            noSuch("soap(x, 0)", x, n -> x.soap(n, 0), -1, w, w + 1, -w);
            noSuch("soap(0, y)", x, n -> x.soap(0, n), -1, h, h + 1);
            noSuch("soap(x, h - 1)", x, n -> x.soap(n, h - 1), -1, w);
            noSuch("soap(w - 1, y)", x, n -> x.soap(w - 1, n), -1, h);
            noSuch("boatAt(x, 0)", x, n -> x.boatAt(n, 0), -1, w, w + 1, -w);
            noSuch("boatAt(0, y)", x, n -> x.boatAt(0, n), -1, h, h + 1);
            noSuch("boatAt(x, h - 1)", x, n -> x.boatAt(n, h - 1), -1, w);
            noSuch("boatAt(w - 1, y)", x, n -> x.boatAt(w - 1, n), -1, h);
            Check.noElement("soap(-1, 1)", x, () -> x.soap(-1, 1));
            Check.noElement("soap(w, -1)", x, () -> x.soap(w, -1));
            Check.noElement("boatAt(-1, -1)", x, () -> x.boatAt(-1, -1));
        }
    }

    private static void cellNumbers() {
        Check.sentence("The bath", "The cell in column x and row y (both from 0) has the number W * y + x.");
        for (int[] wh : new int[][] {{3, 10}, {10, 3}, {10, 10}, {3, 3}}) {
            int w = wh[0];
            int last = w * wh[1] - 1;
            BathBoats x = Check.bath("bath " + w + " " + wh[1] + " level 0;boat 0 0 1 1;");
            for (int cell = 1; cell <= last; cell++) {
                Check.due("towStep to cell " + cell + " from the one before", x.towStep(0, cell % w, cell / w),
                        cell % w == 0 ? cell - 2 : cell);
                Check.due("carry from cell " + (cell - 1), x.carry(0, cell % w, cell / w), cell - 1);
            }
            x.turn(2);
            Check.due("the cell of the boat that sank in the last one", x.ended(0, 3), last);
        }
    }

    private static void cellSoap() {
        Check.sentence("The bath", "A cell has soap (0 to 99; 0 at first).");
        BathBoats x = new BathBoats();
        for (int cell = 0; cell < 25; cell++) {
            Check.due("the soap in cell " + cell, x.soap(cell % 5, cell / 5), 0);
        }
        x.dropSoap(4, 4, 99);
        x.dropSoap(4, 4, 1);
        Check.due("the most soap", x.soap(4, 4), 99);
        Check.due("the soap in the cell before", x.soap(3, 4), 0);
    }

    private static void boatAtEmpty() {
        Check.sentence("promise 10", "NONE if there is none");
        BathBoats x = Check.bath(SOME);
        Check.due("boatAt(2, 0) of an empty cell", x.boatAt(2, 0), -1);
        Check.due("boatAt(1, 1) of a cell with a tap", x.boatAt(1, 1), -1);
        Check.due("boatAt(1, 2)", x.boatAt(1, 2), 1);
        x.turn(2);
        Check.due("boatAt(0, 0) of a sunk boat", x.boatAt(0, 0), -1);
        Check.due("boatAt(4, 3) of a drained boat", x.boatAt(4, 3), -1);
        Check.due("boatAt(2, 0) without boats", new BathBoats().boatAt(2, 0), -1);
    }

    private static void afloatRange() {
        Check.sentence("promise 11", "if there are not so many");
        BathBoats x = Check.bath(SOME);
        Check.due("afloat(0)", x.afloat(0), 0);
        Check.due("afloat(2)", x.afloat(2), 2);
        noSuch("afloat", x, n -> x.afloat(n), -1, 3);
        x.turn(2);
        Check.due("afloat(0) of one", x.afloat(0), 1);
        noSuch("afloat of one", x, n -> x.afloat(n), -1, 1, 2);
        x.turn(100);
        noSuch("afloat of none", x, n -> x.afloat(n), -1, 0);
        BathBoats none = new BathBoats();
        Check.noElement("afloat(0) without boats", none, () -> none.afloat(0));
        BathBoats all = full();
        Check.due("afloat(11)", all.afloat(11), 11);
        Check.noElement("afloat(12)", all, () -> all.afloat(12));
    }

    private static void endedRange() {
        Check.sentence("promise 12", "if there are not so many or what is out of range");
        BathBoats x = Check.bath(SOME);
        noSuch("ended(i, 0) of none", x, n -> x.ended(n, 0), -1, 0);
        x.turn(2);
        Check.due("ended(1, 3)", x.ended(1, 3), 0);
        Check.due("ended(0, 3)", x.ended(0, 3), 19);
        noSuch("ended(i, 0) of two", x, n -> x.ended(n, 0), -1, 2);
        noSuch("ended(0, what)", x, n -> x.ended(0, n), -1, 4);
        noSuch("ended(1, what)", x, n -> x.ended(1, n), -1, 4, 5);
        x.undo();
        noSuch("ended(i, 0) after undo", x, n -> x.ended(n, 0), 0);
        BathBoats all = full();
        all.turn(200);
        all.setLevel(0);
        for (int i = 0; i < 9; i++) {
            all.turn(200);
        }
        Check.due("boats that ended", all.size(6) + all.size(7), 12);
        Check.due("ended(11, 2) is 1 or 2", all.ended(11, 2) == 1 || all.ended(11, 2) == 2, true);
        Check.noElement("ended(12, 0)", all, () -> all.ended(12, 0));
    }

    private static void endedOrder() {
        Check.sentence("promise 12", "by time, and at the same time by number");
        BathBoats x = Check.bath("bath 5 5 level 0;drain 0 0 9 1;drain 1 0 9 0;boat 4 4 1 2;boat 3 3 1 1;boat 0 0 1 9;"
                + "boat 1 0 1 9;boat 2 2 1 1;boat 2 3 1 1 wet 1;");
        x.turn(1);
        x.setDrain(1, 1);
        x.turn(1);
        x.turn(1);
        int[][] due = {{2, 1, 2, 0}, {5, 1, 1, 17}, {1, 2, 1, 18}, {3, 2, 2, 1}, {4, 2, 1, 12}, {0, 3, 1, 24}};
        for (int i = 0; i < due.length; i++) {
            for (int what = 0; what < 4; what++) {
                Check.due("ended(" + i + ", " + what + ")", x.ended(i, what), due[i][what]);
            }
        }
    }

    private static void nearestBounds() {
        Check.sentence("promise 17", "of several the smallest number");
        BathBoats x = Check.bath("bath 5 5 level 0;drain 2 2 1 0;drain 0 0 1 0;boat 4 4 9 9;boat 2 4 9 9;boat 1 1 9 99;"
                + "boat 3 3 9 9;boat 4 2 9 9;");
        Check.due("nearest(0) of four at the same distance", x.nearest(0), 1);
        x.carry(3, 2, 3);
        Check.due("nearest(0)", x.nearest(0), 3);
        x.carry(0, 2, 1);
        Check.due("nearest(0)", x.nearest(0), 0);
        x.carry(4, 2, 2);
        Check.due("nearest(0) of one upon the drain", x.nearest(0), 4);
        Check.sentence("promise 17", "NONE if none is afloat");
        x.turn(10);
        Check.due("nearest(0) of the last one", x.nearest(0), 2);
        x.turn(100);
        Check.due("nearest(0)", x.nearest(0), -1);
        Check.due("nearest(0) without boats", Check.bath("bath 5 5;drain 2 2 1 0;").nearest(0), -1);
        Check.sentence("promise 17", "if there is no such drain");
        noSuch("nearest", x, n -> x.nearest(n), -1, 2);
        BathBoats none = Check.bath("bath 5 5;boat 1 1 1 1;tap 0 0 1;");
        Check.noElement("nearest(0) without drains", none, () -> none.nearest(0));
    }

    private static void softestBounds() {
        Check.sentence("promise 18", "of several the smallest number");
        BathBoats x = Check.bath("bath 5 5 level 0;boat 0 0 1 9;boat 1 0 1 12 wet 4;boat 2 0 1 8;boat 3 0 1 999 wet 992;"
                + "boat 4 0 1 107 wet 100;boat 0 1 1 700;");
        Check.due("softest() of two that are left by 7", x.softest(), 3);
        x.dry(3);
        Check.due("softest()", x.softest(), 4);
        x.dry(4);
        Check.due("softest() of two again", x.softest(), 1);
        Check.due("softest() of the first and the last", Check.bath("bath 5 5;boat 0 0 1 9;boat 1 1 1 10;boat 2 2 1 9;").softest(), 0);
        Check.due("softest() of one", Check.bath("bath 5 5;boat 0 0 1 999;").softest(), 0);
        Check.sentence("promise 18", "NONE if none is afloat");
        x.turn(200);
        Check.due("softest() of those that are left", x.softest(), 5);
        for (int i = 0; i < 3; i++) {
            x.turn(200);
        }
        Check.due("softest() of the last one", x.softest(), 3);
        x.turn(200);
        Check.due("softest()", x.softest(), -1);
        Check.due("softest() without boats", new BathBoats().softest(), -1);
    }

    private static void driesOutBounds() {
        Check.sentence("promise 19", "(strength less wetness, plus 1); NONE if it is not afloat");
        BathBoats x = Check.bath("bath 5 5 level 0;boat 0 0 1 999;boat 1 1 1 5 wet 5;boat 2 2 1 1;soap 0 0 99;");
        Check.due("driesOut(0) of the strongest", x.driesOut(0), 1000);
        Check.due("driesOut(1) of the wettest", x.driesOut(1), 1);
        Check.due("driesOut(2)", x.driesOut(2), 2);
        x.turn(1);
        Check.due("driesOut(1) of a sunk one", x.driesOut(1), -1);
        Check.due("driesOut(2)", x.driesOut(2), 1);
        Check.sentence("promise 19", "if there is no such boat");
        noSuch("driesOut", x, n -> x.driesOut(n), -1, 3, 12);
        BathBoats none = new BathBoats();
        Check.noElement("driesOut(0) without boats", none, () -> none.driesOut(0));
    }

    private static void softnessBounds() {
        Check.sentence("promise 29", "(both sums converted, then divided); 0 if none is afloat");
        BathBoats x = Check.bath("bath 5 5 level 0;boat 0 0 1 3 wet 1;boat 1 1 1 4 wet 4;boat 2 2 1 999;");
        Check.due("softness()", x.softness(), 5.0 / 1006.0);
        x.turn(1);
        Check.due("softness() of two", x.softness(), 3.0 / 1002.0);
        x.turn(2);
        Check.due("softness() of one", x.softness(), 3.0 / 999.0);
        x.dry(2);
        Check.due("softness() of a dry one", x.softness(), 0.0);
        for (int i = 0; i < 5; i++) {
            x.turn(200);
        }
        Check.due("softness() of none", x.softness(), 0.0);
        Check.due("softness() without boats", new BathBoats().softness(), 0.0);
        Check.due("softness() of wet ones", Check.bath("bath 3 3;boat 0 0 1 7 wet 7;boat 1 1 1 999 wet 999;").softness(), 1.0);
    }

    private static void shareBounds() {
        Check.sentence("promise 30", "(both converted, then divided); 0 if there are no boats");
        Check.due("afloatShare() without boats", new BathBoats().afloatShare(), 0f);
        BathBoats x = Check.bath("bath 5 5 level 0;boat 0 0 1 1;boat 1 1 1 2;boat 2 2 1 3;");
        Check.due("afloatShare() of all", x.afloatShare(), 1f);
        x.turn(2);
        Check.due("afloatShare() of two", x.afloatShare(), 2f / 3f);
        x.turn(1);
        Check.due("afloatShare() of one", x.afloatShare(), 1f / 3f);
        x.turn(1);
        Check.due("afloatShare() of none", x.afloatShare(), 0f);
    }
}
