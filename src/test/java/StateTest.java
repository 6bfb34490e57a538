/** Promises 5 to 19, 29 and 30: what is told of a bath as it is. */
public final class StateTest {
    private static final String MIXED = "bath 5 4 push 0;drain 4 3 50 10;boat 0 0 10 20 wet 3;boat 1 2 20 30;"
            + "boat 3 3 5 2 wet 2;boat 4 3 7 40;soap 1 2 25;soap 3 3 12;";
    private static final String TWO_DRAINS = "bath 3 3;drain 0 1 9 30;drain 2 1 9 30;";

    public static void main(String[] args) {
        size();
        boat();
        drainAndTap();
        soap();
        boatAt();
        afloat();
        ended();
        flow();
        pushOn();
        strongest();
        calm();
        nearest();
        softest();
        driesOut();
        shares();
        lastCell();
        Check.end();
    }

    private static void size() {
        Check.part("promise 5, size");
        BathBoats x = Check.bath(MIXED);
        int[] before = {5, 4, 1, 0, 4, 4, 0, 0, 0, 500, 0, 1, 37, 0, 0};
        int[] after = {5, 4, 1, 0, 4, 2, 1, 1, 1, 490, 0, 1, 37, 0, 0};
        for (int what = 0; what < 15; what++) {
            Check.due("size(" + what + ")", x.size(what), before[what]);
        }
        x.turn(1);
        for (int what = 0; what < 15; what++) {
            Check.due("size(" + what + ") after a turn", x.size(what), after[what]);
        }
        x.setWind(-3, 4);
        x.setPush(7);
        x.carry(1, 4, 3);
        Check.due("size(10)", x.size(10), 7);
        Check.due("size(11) with a boat of weight 20 on a drain of size 50", x.size(11), 1);
        Check.due("size(13)", x.size(13), -3);
        Check.due("size(14)", x.size(14), 4);
        x.carry(1, 0, 1);
        x.addBoat(4, 3, 51, 1);
        Check.due("size(11) clogged", x.size(11), 0);
        x.turn(2);
        Check.due("size(11) after the clogging boat sank", x.size(11), 1);
        for (int what : new int[] {-1, 15, Integer.MAX_VALUE, Integer.MIN_VALUE}) {
            Check.noElement("size(" + what + ")", x, () -> x.size(what));
        }
    }

    private static void boat() {
        Check.part("promise 6, boat");
        BathBoats x = Check.bath(MIXED);
        x.turn(1);
        Check.due("boat 0", Check.boat(x, 0), "0 0 10 20 4 1 0 0 -1 0 0");
        Check.due("boat 1", Check.boat(x, 1), "1 2 20 30 3 1 0 0 -1 0 0");
        Check.due("boat 2", Check.boat(x, 2), "3 3 5 2 4 98 0 1 1 0 0");
        Check.due("boat 3", Check.boat(x, 3), "4 3 7 40 1 0 0 2 1 0 0");
        x.turn(10);
        Check.due("boat 2 later", Check.boat(x, 2), "3 3 5 2 4 98 0 1 1 0 0");
        Check.due("boat 3 later", Check.boat(x, 3), "4 3 7 40 1 0 0 2 1 0 0");
        for (int[] a : new int[][] {{-1, 0}, {4, 0}, {0, -1}, {0, 11}, {3, 11}, {Integer.MAX_VALUE, 0}, {-1, 11}}) {
            Check.noElement("boat(" + a[0] + ", " + a[1] + ")", x, () -> x.boat(a[0], a[1]));
        }
        BathBoats none = new BathBoats();
        Check.noElement("boat(0, 0)", none, () -> none.boat(0, 0));
    }

    private static void drainAndTap() {
        Check.part("promise 7, drain");
        BathBoats x = Check.bath(MIXED);
        Check.due("drain 0", Check.drain(x, 0), "4 3 50 10 1 0");
        x.turn(1);
        Check.due("drain 0", Check.drain(x, 0), "4 3 50 10 1 1");
        x.addBoat(4, 3, 51, 9);
        Check.due("drain 0 clogged", Check.drain(x, 0), "4 3 50 10 0 1");
        x.undo();
        x.addBoat(4, 3, 50, 9);
        Check.due("drain 0 with a boat of its size", Check.drain(x, 0), "4 3 50 10 1 1");
        x.setDrain(0, 0);
        Check.due("drain 0 closed", Check.drain(x, 0), "4 3 50 0 0 1");
        for (int[] a : new int[][] {{-1, 0}, {1, 0}, {0, -1}, {0, 6}, {Integer.MIN_VALUE, 0}}) {
            Check.noElement("drain(" + a[0] + ", " + a[1] + ")", x, () -> x.drain(a[0], a[1]));
        }
        Check.part("promise 8, tap");
        BathBoats t = Check.bath("bath 5 4;tap 1 3 7;tap 4 0 99;drain 0 0 1 1;");
        int[][] numbers = {{1, 3, 7}, {4, 0, 99}};
        for (int i = 0; i < 2; i++) {
            for (int what = 0; what < 3; what++) {
                Check.due("tap(" + i + ", " + what + ")", t.tap(i, what), numbers[i][what]);
            }
        }
        for (int[] a : new int[][] {{-1, 0}, {2, 0}, {0, -1}, {0, 3}, {1, 3}}) {
            Check.noElement("tap(" + a[0] + ", " + a[1] + ")", t, () -> t.tap(a[0], a[1]));
        }
    }

    private static final int[][] NO_CELLS = {{-1, 0}, {0, -1}, {5, 0}, {0, 4}, {4, 4}, {Integer.MAX_VALUE, 0},
        {0, Integer.MIN_VALUE}};

    private static void soap() {
        Check.part("promise 9, soap");
        BathBoats x = Check.bath(MIXED);
        Check.due("soap(1, 2)", x.soap(1, 2), 25);
        Check.due("soap(2, 1)", x.soap(2, 1), 0);
        Check.due("soap(3, 3)", x.soap(3, 3), 12);
        for (int[] c : NO_CELLS) {
            Check.noElement("soap(" + c[0] + ", " + c[1] + ")", x, () -> x.soap(c[0], c[1]));
        }
    }

    private static void boatAt() {
        Check.part("promise 10, boatAt");
        BathBoats x = Check.bath(MIXED);
        Check.due("boatAt(1, 2)", x.boatAt(1, 2), 1);
        Check.due("boatAt(2, 1)", x.boatAt(2, 1), -1);
        Check.due("boatAt(3, 3)", x.boatAt(3, 3), 2);
        Check.due("boatAt(4, 3)", x.boatAt(4, 3), 3);
        x.turn(1);
        Check.due("boatAt(3, 3) after it sank", x.boatAt(3, 3), -1);
        Check.due("boatAt(4, 3) after it was drained", x.boatAt(4, 3), -1);
        x.carry(0, 3, 3);
        Check.due("boatAt(3, 3) over the sunk one", x.boatAt(3, 3), 0);
        Check.due("boatAt(0, 0)", x.boatAt(0, 0), -1);
        for (int[] c : NO_CELLS) {
            Check.noElement("boatAt(" + c[0] + ", " + c[1] + ")", x, () -> x.boatAt(c[0], c[1]));
        }
    }

    private static void afloat() {
        Check.part("promise 11, afloat");
        BathBoats x = Check.bath("bath 5 5;boat 0 0 1 1;boat 1 1 1 99;boat 2 2 1 1;boat 3 3 1 99;");
        for (int i = 0; i < 4; i++) {
            Check.due("afloat(" + i + ")", x.afloat(i), i);
        }
        Check.noElement("afloat(4)", x, () -> x.afloat(4));
        x.turn(2);
        Check.due("afloat(0)", x.afloat(0), 1);
        Check.due("afloat(1)", x.afloat(1), 3);
        Check.noElement("afloat(2)", x, () -> x.afloat(2));
        Check.noElement("afloat(-1)", x, () -> x.afloat(-1));
    }

    /** Twelve boats from the last cell backwards, the later ones weaker. */
    private static String twelve() {
        String text = "";
        for (int b = 0; b < 12; b++) {
            text += "boat " + (99 - b) % 10 + " " + (99 - b) / 10 + " 1 " + (12 - b) + ";";
        }
        return text;
    }

    private static void lastCell() {
        Check.part("the last cell of the greatest bath");
        BathBoats x = Check.bath("bath 10 10;tap 0 0 1;tap 1 0 2;tap 2 0 3;tap 3 0 4;tap 4 0 5;boat 8 9 9 99;"
                + "soap 9 9 50;soap 0 0 7;");
        Check.due("tap(4, 2)", x.tap(4, 2), 5);
        Check.due("soap(9, 9)", x.soap(9, 9), 50);
        Check.due("size(12)", x.size(12), 57);
        Check.due("tow(0, 9, 9)", x.tow(0, 9, 9), 51);
        Check.due("carry(0, 9, 9)", x.carry(0, 9, 9), 98);
        Check.due("boatAt(9, 9)", x.boatAt(9, 9), 0);
        Check.due("tow(0, 0, 9) out of the corner", x.tow(0, 0, 9), 9);
        Check.due("towStep(0, 0, 9)", x.towStep(0, 0, 9), 98);
        Check.due("calm(9, 9, 9999)", x.calm(9, 9, 9999), 100);
        x.turn(1);
        Check.due("soap(9, 9) then", x.soap(9, 9), 48);
        Check.due("size(12) then", x.size(12), 57);
    }

    private static void ended() {
        Check.part("promise 12, ended");
        BathBoats x = Check.bath("bath 5 5 level 0;drain 4 4 9 1;boat 0 1 1 2;boat 1 1 1 1;boat 4 4 1 9;boat 3 3 1 1;");
        Check.noElement("ended(0, 0)", x, () -> x.ended(0, 0));
        x.turn(5);
        int[][] due = {{2, 1, 2, 24}, {1, 2, 1, 6}, {3, 2, 1, 18}, {0, 3, 1, 5}};
        for (int i = 0; i < 4; i++) {
            for (int what = 0; what < 4; what++) {
                Check.due("ended(" + i + ", " + what + ")", x.ended(i, what), due[i][what]);
            }
        }
        BathBoats all = Check.bath("bath 10 10 level 0;" + twelve());
        all.turn(13);
        for (int i = 0; i < 12; i++) {
            Check.due("ended(" + i + ", 0) of 12", all.ended(i, 0), 11 - i);
            Check.due("ended(" + i + ", 3) of 12", all.ended(i, 3), 99 - (11 - i));
        }
        Check.due("the strength of boat 11", all.boat(11, 3), 1);
        for (int[] a : new int[][] {{-1, 0}, {4, 0}, {0, -1}, {0, 4}, {3, 4}}) {
            Check.noElement("ended(" + a[0] + ", " + a[1] + ")", x, () -> x.ended(a[0], a[1]));
        }
    }

    private static void flow() {
        Check.part("promise 13, flow");
        BathBoats x = Check.bath("bath 5 5;drain 2 2 20 50;tap 0 0 10;");
        float toTap = 10f / 8f * 2f / 4f;
        Check.due("flow(0, 2, true)", x.flow(0, 2, true), 12.5f);
        Check.due("flow(0, 2, false)", x.flow(0, 2, false), 2.5f);
        Check.due("flow(1, 1, true)", x.flow(1, 1, true), 12.5f + 2.5f);
        Check.due("flow(2, 2, true) in the drain's own cell", x.flow(2, 2, true), toTap);
        Check.due("flow(2, 2, false)", x.flow(2, 2, false), toTap);
        Check.due("flow(0, 0, true) in the tap's own cell", x.flow(0, 0, true), 50f / 8f * 2f / 4f);
        Check.due("flow(4, 3, true)", x.flow(4, 3, true), 50f / 5f * -2f / 3f - 10f / 25f * -4f / 7f);
        Check.due("flow(4, 3, false)", x.flow(4, 3, false), 50f / 5f * -1f / 3f - 10f / 25f * -3f / 7f);
        BathBoats single = Check.bath("bath 10 10;drain 3 7 9 97;");
        Check.due("flow(1, 0, true)", single.flow(1, 0, true), 97f / 53f * 2f / 9f);
        Check.due("flow(1, 0, false)", single.flow(1, 0, false), 97f / 53f * 7f / 9f);
        Check.due("flow(9, 9, true)", single.flow(9, 9, true), 97f / 40f * -6f / 8f);
        single.addBoat(3, 7, 10, 9);
        Check.due("flow to a clogged drain", single.flow(1, 0, true), 0f);
        BathBoats none = Check.bath("bath 5 4;drain 0 0 9 0;tap 1 1 0;");
        Check.due("flow of nothing", none.flow(4, 3, false), 0f);
        for (int[] c : NO_CELLS) {
            Check.noElement("flow(" + c[0] + ", " + c[1] + ", true)", none, () -> none.flow(c[0], c[1], true));
        }
    }

    private static void pushOn() {
        Check.part("promise 14, pushOn");
        BathBoats x = Check.bath("bath 5 5 level 400 push 2 wind 7 -15;drain 2 2 20 50;tap 0 0 10;boat 0 2 8 9;"
                + "soap 1 2 40;soap 0 1 5;boat 4 4 1 1;");
        Check.due("pushOn(0, true)", x.pushOn(0, true), 62 - 80 + 8);
        Check.due("pushOn(0, false)", x.pushOn(0, false), 12 + 10 - 18);
        x.setPush(0);
        x.setWind(0, 0);
        Check.due("pushOn(0, true) of the flow alone", x.pushOn(0, true), 62);
        x.blow(0, 300, 300);
        Check.due("pushOn does not limit", x.pushOn(0, true), 62);
        x.setLevel(0);
        x.setWind(99, 99);
        Check.due("pushOn(0, true) without water", x.pushOn(0, true), 0);
        x.setLevel(1);
        Check.due("pushOn(0, true) with some water", x.pushOn(0, true), 123);
        x.carry(0, 3, 0);
        Check.due("pushOn(0, false) above the drain", x.pushOn(0, false), 123);
        x.turn(2);
        Check.due("state of boat 1", x.boat(1, 7), 1);
        Check.due("pushOn of a sunk boat", x.pushOn(1, true), 0);
        BathBoats great = Check.bath("bath 5 5 level 1000 wind 99 0;drain 2 2 20 99;boat 1 2 1 9;boat 2 0 99 9;");
        Check.due("pushOn(0, true)", great.pushOn(0, true), 9900 + 990);
        Check.due("pushOn(1, true)", great.pushOn(1, true), 10);
        great.carry(1, 2, 2);
        Check.due("pushOn(0, true) of a clogged drain", great.pushOn(0, true), 990);
        great.setWind(-99, -98);
        Check.due("pushOn(1, true)", great.pushOn(1, true), -10);
        Check.due("pushOn(1, false)", great.pushOn(1, false), -9);
        BathBoats back = Check.bath("bath 5 5 level 1000;drain 0 2 20 9;boat 2 2 8 9;boat 2 4 8 9;");
        Check.due("pushOn rounds towards 0", back.pushOn(0, true), -28);
        for (int b : new int[] {-1, 2, Integer.MAX_VALUE}) {
            Check.noElement("pushOn(" + b + ", true)", back, () -> back.pushOn(b, true));
        }
    }

    private static void strongest() {
        Check.part("promise 15, strongest");
        Check.due("without flow", Check.bath("bath 5 5;").strongest(), 0);
        Check.due("about a drain", Check.bath("bath 5 5;drain 2 2 9 50;").strongest(), 7);
        Check.due("about a tap", Check.bath("bath 5 5;tap 2 2 50;").strongest(), 7);
        Check.due("between two drains", Check.bath(TWO_DRAINS).strongest(), 0);
        Check.due("at the last cell", Check.bath("bath 3 3;drain 2 1 9 9;drain 1 2 9 9;drain 0 0 9 9;").strongest(), 8);
    }

    private static void calm() {
        Check.part("promise 16, calm");
        BathBoats x = Check.bath(TWO_DRAINS);
        int[][] due = {{1, 1, 15, 5}, {1, 0, 15, 5}, {1, 1, 14, 3}, {1, 0, 14, 0}, {0, 0, 36, 9}, {0, 0, 35, 0},
            {1, 1, 35, 5}, {1, 1, 7, 1}, {1, 1, 0, 1}, {0, 1, 7, 0}, {2, 2, 9999, 9}};
        for (int[] d : due) {
            Check.due("calm(" + d[0] + ", " + d[1] + ", " + d[2] + ")", x.calm(d[0], d[1], d[2]), d[3]);
        }
        BathBoats wide = Check.bath("bath 10 3;drain 5 1 9 99;");
        Check.due("the left area", wide.calm(0, 1, 10), 8);
        Check.due("the left area from its border", wide.calm(2, 2, 10), 8);
        Check.due("the right area", wide.calm(9, 0, 10), 5);
        Check.due("the drain's own area", wide.calm(5, 1, 10), 1);
        Check.due("no area", wide.calm(4, 1, 10), 0);
        Check.noElement("calm(10, 0, 0)", wide, () -> wide.calm(10, 0, 0));
        Check.noElement("calm(0, 3, -1)", wide, () -> wide.calm(0, 3, -1));
        Check.noElement("calm(-1, 0, 10000)", wide, () -> wide.calm(-1, 0, 10000));
        Check.badArgument("calm(0, 0, -1)", wide, () -> wide.calm(0, 0, -1));
        Check.badArgument("calm(0, 0, 10000)", wide, () -> wide.calm(0, 0, 10000));
    }

    private static void nearest() {
        Check.part("promise 17, nearest");
        BathBoats x = Check.bath("bath 6 6;drain 2 2 1 0;drain 5 5 1 0;boat 0 0 1 9;boat 2 4 1 9;boat 3 1 1 1;"
                + "boat 5 0 1 9;boat 4 2 1 1;");
        Check.due("nearest(0)", x.nearest(0), 1);
        Check.due("nearest(1)", x.nearest(1), 1);
        x.carry(1, 2, 5);
        Check.due("nearest(0)", x.nearest(0), 2);
        x.carry(0, 2, 2);
        Check.due("nearest(0)", x.nearest(0), 0);
        x.carry(0, 0, 0);
        x.turn(2);
        Check.due("nearest(0) after boat 2 and 4 sank", x.nearest(0), 1);
        x.turn(20);
        Check.due("nearest(0) of none", x.nearest(0), -1);
        for (int d : new int[] {-1, 2, Integer.MIN_VALUE}) {
            Check.noElement("nearest(" + d + ")", x, () -> x.nearest(d));
        }
    }

    private static void softest() {
        Check.part("promise 18, softest");
        BathBoats x = Check.bath("bath 6 6 level 0;boat 0 0 1 9;boat 1 1 1 20 wet 12;boat 2 2 1 8;boat 3 3 1 50;");
        Check.due("softest()", x.softest(), 1);
        x.dry(1);
        Check.due("softest()", x.softest(), 2);
        x.turn(9);
        Check.due("softest() after boat 2 sank", x.softest(), 0);
        x.turn(100);
        Check.due("softest() of none", x.softest(), -1);
    }

    private static void driesOut() {
        Check.part("promise 19, driesOut");
        BathBoats x = Check.bath("bath 6 6 level 0;boat 0 0 1 9 wet 2;boat 1 1 1 20 wet 20;soap 0 0 99;");
        Check.due("driesOut(0)", x.driesOut(0), 8);
        Check.due("driesOut(1)", x.driesOut(1), 1);
        x.turn(1);
        Check.due("driesOut(1) of a sunk one", x.driesOut(1), -1);
        Check.noElement("driesOut(-1)", x, () -> x.driesOut(-1));
        Check.noElement("driesOut(2)", x, () -> x.driesOut(2));
    }

    private static void shares() {
        Check.part("promise 29, softness");
        BathBoats x = Check.bath("bath 6 6 level 0;boat 0 0 1 9 wet 2;boat 1 1 1 20 wet 17;boat 2 2 1 1;");
        Check.due("softness()", x.softness(), 19.0 / 30.0);
        Check.part("promise 30, afloatShare");
        Check.due("afloatShare()", x.afloatShare(), 1f);
        x.turn(2);
        Check.due("afloatShare()", x.afloatShare(), 2f / 3f);
        Check.part("promise 29, softness");
        Check.due("softness() of those afloat", x.softness(), 23.0 / 29.0);
        x.turn(100);
        Check.due("softness() of none afloat", x.softness(), 0.0);
        Check.part("promise 30, afloatShare");
        Check.due("afloatShare() of none afloat", x.afloatShare(), 0f);
        Check.due("afloatShare() without boats", new BathBoats().afloatShare(), 0f);
        Check.due("softness() without boats", new BathBoats().softness(), 0.0);
    }
}
