/** Promises 20, 21 and 33: towing. */
public final class TowTest {
    private static final String SOAPY = "bath 5 3;boat 0 1 10 99;soap 1 1 5;";

    public static void main(String[] args) {
        tow();
        obstacles();
        towStep();
        pull();
        pullRefused();
        Check.end();
    }

    private static void tow() {
        Check.part("promise 20, tow");
        BathBoats x = Check.bath(SOAPY);
        Check.due("tow(0, 0, 1) to where it is", x.tow(0, 0, 1), 0);
        Check.due("tow(0, 2, 1) round the soap", x.tow(0, 2, 1), 4);
        Check.due("tow(0, 1, 1) into the soap", x.tow(0, 1, 1), 6);
        Check.due("tow(0, 4, 2)", x.tow(0, 4, 2), 5);
        x.addBoat(1, 0, 1, 1);
        Check.due("tow(0, 2, 0) past a boat", x.tow(0, 2, 0), 5);
        Check.due("tow(0, 1, 0) to a boat", x.tow(0, 1, 0), -1);
        x.addBoat(1, 2, 1, 99);
        Check.due("tow(0, 2, 1) through the soap", x.tow(0, 2, 1), 7);
        x.addBoat(1, 1, 1, 99);
        Check.due("tow(0, 2, 1) behind a wall of boats", x.tow(0, 2, 1), -1);
        Check.due("tow(0, 0, 2) before the wall", x.tow(0, 0, 2), 1);
        x.setLevel(0);
        x.turn(2);
        Check.due("tow(1, 4, 0) of a sunk boat", x.tow(1, 4, 0), -1);
        Check.due("tow(1, 1, 0) of a sunk boat to where it is", x.tow(1, 1, 0), -1);
        Check.due("tow(0, 1, 0) to a sunk boat", x.tow(0, 1, 0), 2 + x.soap(1, 0));
        for (int[] a : new int[][] {{-1, 0, 0}, {4, 0, 0}, {0, 5, 0}, {0, 0, 3}, {0, -1, 0}, {0, 0, -1}, {1, 5, 0}}) {
            Check.noElement("tow(" + a[0] + ", " + a[1] + ", " + a[2] + ")", x, () -> x.tow(a[0], a[1], a[2]));
        }
    }

    private static void obstacles() {
        Check.part("promise 20, obstacles");
        BathBoats x = Check.bath("bath 3 3;drain 1 0 10 1;drain 1 1 9 1;drain 1 2 11 0;boat 0 0 10 9;boat 2 1 1 9;");
        Check.due("tow(0, 1, 0) to an open drain of its weight", x.tow(0, 1, 0), -1);
        Check.due("tow(0, 1, 1) to a smaller drain", x.tow(0, 1, 1), 2);
        Check.due("tow(0, 1, 2) to a closed drain", x.tow(0, 1, 2), 3);
        Check.due("tow(0, 2, 0)", x.tow(0, 2, 0), -1);
        x.carry(1, 2, 2);
        Check.due("tow(0, 2, 0)", x.tow(0, 2, 0), 4);
        Check.due("tow(1, 1, 2)", x.tow(1, 1, 2), 1);
        Check.due("tow(1, 0, 1)", x.tow(1, 0, 1), 3);
        x.carry(0, 1, 0);
        Check.due("tow(0, 1, 0) where it is, on an open drain", x.tow(0, 1, 0), 0);
        Check.due("tow(0, 0, 0) from an open drain", x.tow(0, 0, 0), 1);
        x.setDrain(2, 1);
        Check.due("tow(1, 0, 1) with all drains open", x.tow(1, 0, 1), -1);
    }

    private static void towStep() {
        Check.part("promise 21, towStep");
        BathBoats x = Check.bath(SOAPY);
        Check.due("towStep(0, 2, 1) of two ways", x.towStep(0, 2, 1), 0);
        Check.due("towStep(0, 1, 1)", x.towStep(0, 1, 1), 6);
        Check.due("towStep(0, 1, 2)", x.towStep(0, 1, 2), 10);
        Check.due("towStep(0, 0, 1) where it is", x.towStep(0, 0, 1), -1);
        x.addBoat(1, 0, 1, 1);
        Check.due("towStep(0, 2, 1)", x.towStep(0, 2, 1), 10);
        Check.due("towStep(0, 1, 0) to a boat", x.towStep(0, 1, 0), -1);
        Check.due("towStep(1, 0, 1) to the other boat", x.towStep(1, 0, 1), -1);
        BathBoats middle = Check.bath("bath 3 3;boat 1 1 10 99;");
        int[][] due = {{0, 0, 1}, {1, 0, 1}, {2, 0, 1}, {0, 1, 3}, {2, 1, 5}, {0, 2, 3}, {1, 2, 7}, {2, 2, 5}};
        for (int[] d : due) {
            Check.due("towStep(0, " + d[0] + ", " + d[1] + ") from the middle", middle.towStep(0, d[0], d[1]), d[2]);
        }
        middle.setLevel(0);
        middle.turn(100);
        Check.due("towStep of a sunk boat", middle.towStep(0, 0, 0), -1);
        for (int[] a : new int[][] {{-1, 0, 0}, {1, 0, 0}, {0, 3, 0}, {0, 0, 3}, {0, -1, 0}, {0, 0, -1}}) {
            Check.noElement("towStep(" + a[0] + ", " + a[1] + ", " + a[2] + ")", middle,
                    () -> middle.towStep(a[0], a[1], a[2]));
        }
    }

    private static void pull() {
        Check.part("promise 33, pull");
        BathBoats x = Check.bath(SOAPY);
        x.blow(0, 50, -70);
        Check.due("pull(0, 2, 1, 3)", x.pull(0, 2, 1, 3), 3);
        Check.due("boat 0", Check.boat(x, 0), "2 0 10 99 0 0 0 0 -1 0 0");
        Check.due("undoCount()", x.undoCount(), 2);
        x.undo();
        Check.due("boat 0 after undo", Check.boat(x, 0), "0 1 10 99 0 50 -70 0 -1 0 0");
        Check.due("pull(0, 2, 1, 0)", x.pull(0, 2, 1, 0), 0);
        Check.due("boat 0 without a step", Check.boat(x, 0), "0 1 10 99 0 0 0 0 -1 0 0");
        x.blow(0, 1, 1);
        Check.due("pull(0, 0, 1, 9) to where it is", x.pull(0, 0, 1, 9), 0);
        Check.due("boat 0 where it is", Check.boat(x, 0), "0 1 10 99 0 0 0 0 -1 0 0");
        Check.due("undoCount()", x.undoCount(), 4);
        Check.due("pull(0, 1, 1, 5) into the soap", x.pull(0, 1, 1, 5), 0);
        Check.due("pull(0, 1, 1, 6)", x.pull(0, 1, 1, 6), 6);
        Check.due("boatAt(1, 1)", x.boatAt(1, 1), 0);
        Check.due("boatAt(0, 1)", x.boatAt(0, 1), -1);
        Check.due("pull(0, 4, 2, 9999)", x.pull(0, 4, 2, 9999), 4);
        Check.due("boat 0 at the target", Check.boat(x, 0), "4 2 10 99 0 0 0 0 -1 0 0");
        BathBoats d = Check.bath("bath 3 3;drain 1 1 50 9;boat 1 1 60 9;boat 0 0 40 9;");
        Check.due("the drain is clogged", d.drain(0, 4), 0);
        Check.due("pull off the drain", d.pull(0, 2, 2, 99), 2);
        Check.due("the drain works", d.drain(0, 4), 1);
        Check.due("pull back", d.pull(0, 1, 1, 99), 2);
    }

    private static void pullRefused() {
        Check.part("promise 33, refused");
        BathBoats x = Check.bath("bath 3 3;drain 1 1 50 9;boat 2 1 60 9;boat 0 0 40 9;boat 0 2 1 1;");
        x.setLevel(0);
        x.turn(2);
        Check.unchanged("pull(2, 0, 0, 0) of a sunk boat", x, () -> x.pull(2, 0, 0, 0), -2);
        Check.unchanged("pull(2, 0, 2, 0) of a sunk boat", x, () -> x.pull(2, 0, 2, 0), -2);
        Check.unchanged("pull(1, 1, 1, 9) into the drain", x, () -> x.pull(1, 1, 1, 9), -3);
        Check.unchanged("pull(1, 2, 1, 0) to a boat", x, () -> x.pull(1, 2, 1, 0), -3);
        for (int[] a : new int[][] {{-1, 0, 0, -1}, {3, 0, 0, 0}, {0, 3, 0, 10000}, {0, 0, 3, 0}, {0, -1, 0, 0}}) {
            Check.noElement("pull(" + a[0] + ", " + a[1] + ", " + a[2] + ", " + a[3] + ")", x,
                    () -> x.pull(a[0], a[1], a[2], a[3]));
        }
        Check.badArgument("pull(2, 0, 0, -1)", x, () -> x.pull(2, 0, 0, -1));
        Check.badArgument("pull(0, 0, 0, 10000)", x, () -> x.pull(0, 0, 0, 10000));
    }
}
