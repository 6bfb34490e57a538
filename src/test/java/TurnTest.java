/** Promise 43, turn: the four steps of "A turn" one by one. */
public final class TurnTest {
    public static void main(String[] args) {
        level();
        driftBySource();
        driftBySoapAndWind();
        moves();
        collisions();
        order();
        wetness();
        draining();
        spreading();
        answers();
        Check.end();
    }

    private static void level() {
        Check.part("step 1");
        BathBoats x = Check.bath("bath 5 5;tap 0 0 30;drain 4 4 9 20;drain 0 4 9 5;boat 0 4 10 99;");
        x.turn(1);
        Check.due("the LEVEL with a clogged drain", x.size(9), 510);
        x.carry(0, 0, 2);
        x.turn(2);
        Check.due("the LEVEL", x.size(9), 520);
        Check.due("the time", x.size(8), 3);
        BathBoats full = Check.bath("bath 5 5 level 990;tap 0 0 99;drain 4 4 9 99;");
        full.turn(1);
        Check.due("the LEVEL in one sum", full.size(9), 990);
        full.setDrain(0, 0);
        full.turn(1);
        Check.due("the LEVEL at most", full.size(9), 1000);
        full.setTap(0, 0);
        full.setDrain(0, 99);
        full.turn(11);
        Check.due("the LEVEL at least", full.size(9), 0);
    }

    private static void driftBySource() {
        Check.part("step 2, flow");
        BathBoats x = Check.bath("bath 5 5 level 450 push 0;drain 2 2 9 50;boat 0 2 10 99;");
        x.turn(1);
        // 12.5 * 400 / 100
        Check.due("boat 0", Check.boat(x, 0), "0 2 10 99 1 50 0 0 -1 0 0");
        x.turn(1);
        // 12.5 * 350 / 100 = 43.75
        Check.due("boat 0", Check.boat(x, 0), "0 2 10 99 2 93 0 0 -1 0 0");
        BathBoats t = Check.bath("bath 5 5 level 300 push 0;tap 2 0 50;boat 2 3 10 99;");
        t.turn(1);
        // 50 / 9 * 350 / 100 = 19.4
        Check.due("boat 0 before a tap", Check.boat(t, 0), "2 3 10 99 1 0 19 0 -1 0 0");
        BathBoats empty = Check.bath("bath 5 5 level 50 push 9 wind 99 99;drain 2 2 9 50;boat 0 2 10 99;soap 0 1 9;");
        empty.blow(0, 150, 150);
        empty.turn(1);
        Check.due("boat 0 without water", Check.boat(empty, 0), "0 2 10 99 1 150 150 0 -1 0 0");
        empty.setLevel(51);
        empty.turn(1);
        Check.due("boat 0 with water", empty.boat(0, 9), 2);
    }

    private static void driftBySoapAndWind() {
        Check.part("step 2, soap and wind");
        BathBoats x = Check.bath("bath 5 5 push 3;boat 2 2 10 99;soap 1 2 7;soap 3 2 20;soap 2 1 9;soap 2 3 2;soap 2 2 50;");
        x.turn(1);
        Check.due("boat 0 by soap", Check.boat(x, 0), "2 2 10 99 6 -39 21 0 -1 0 0");
        BathBoats edge = Check.bath("bath 3 3 push 9;boat 0 0 10 99;boat 2 2 10 99;soap 1 0 5;soap 0 1 6;soap 1 2 7;soap 2 1 8;");
        edge.turn(1);
        Check.due("boat 0 at the edge", Check.boat(edge, 0), "0 0 10 99 1 -45 -54 0 -1 0 0");
        Check.due("boat 1 at the edge", Check.boat(edge, 1), "2 2 10 99 1 63 72 0 -1 0 0");
        BathBoats wind = Check.bath("bath 5 5 wind -99 7;boat 2 2 16 99;boat 4 4 99 99;");
        wind.turn(1);
        Check.due("boat 0 in the wind", Check.boat(wind, 0), "2 2 16 99 1 -61 4 0 -1 0 0");
        Check.due("boat 1 in the wind", Check.boat(wind, 1), "4 4 99 99 1 -10 0 0 -1 0 0");
        BathBoats storm = Check.bath("bath 9 9 wind 99 -99;boat 4 4 1 99;");
        storm.turn(1);
        Check.due("boat 0 in a storm", Check.boat(storm, 0), "5 3 1 99 1 200 -200 0 -1 2 0");
        storm.setWind(-99, 99);
        storm.turn(1);
        Check.due("boat 0 in the contrary storm", Check.boat(storm, 0), "4 4 1 99 2 -200 200 0 -1 4 0");
    }

    private static BathBoats blown(String boats, int... drifts) {
        BathBoats x = Check.bath("bath 5 5 push 0;" + boats);
        for (int i = 0; i < drifts.length; i += 2) {
            x.blow(i / 2, drifts[i], drifts[i + 1]);
        }
        x.turn(1);
        return x;
    }

    private static void moves() {
        Check.part("step 2, moves");
        String one = "boat 2 2 10 99;";
        Check.due("99", Check.boat(blown(one, 99, -99), 0), "2 2 10 99 1 99 -99 0 -1 0 0");
        Check.due("100 right", Check.boat(blown(one, 100, 0), 0), "3 2 10 99 1 0 0 0 -1 1 0");
        Check.due("100 left", Check.boat(blown(one, -100, 0), 0), "1 2 10 99 1 0 0 0 -1 1 0");
        Check.due("100 up", Check.boat(blown(one, 0, -100), 0), "2 1 10 99 1 0 0 0 -1 1 0");
        Check.due("100 down", Check.boat(blown(one, 0, 100), 0), "2 3 10 99 1 0 0 0 -1 1 0");
        Check.due("both", Check.boat(blown(one, 250, -101), 0), "3 1 10 99 1 150 -1 0 -1 2 0");
        Check.due("out to the right", Check.boat(blown("boat 4 0 10 99;", 130, 5), 0), "4 0 10 99 1 0 5 0 -1 0 0");
        Check.due("out to the left", Check.boat(blown("boat 0 0 10 99;", -130, 5), 0), "0 0 10 99 1 0 5 0 -1 0 0");
        Check.due("out above", Check.boat(blown("boat 0 0 10 99;", -99, -300), 0), "0 0 10 99 1 -99 0 0 -1 0 0");
        Check.due("out below", Check.boat(blown("boat 0 4 10 99;", 120, 120), 0), "1 4 10 99 1 20 0 0 -1 1 0");
        Check.due("just within", Check.boat(blown("boat 0 4 10 99;", -99, 99), 0), "0 4 10 99 1 -99 99 0 -1 0 0");
    }

    private static void collisions() {
        Check.part("step 2, collisions");
        BathBoats x = blown("boat 1 2 8 99;boat 2 2 50 99;", 99, 0, -99, 0);
        Check.due("no collision", x.boat(0, 10) + x.boat(1, 10), 0);
        x = blown("boat 1 2 8 99;boat 2 2 50 99;", 250, 40);
        Check.due("boat 0", Check.boat(x, 0), "1 2 8 99 1 0 40 0 -1 0 1");
        Check.due("boat 1", Check.boat(x, 1), "2 2 50 99 1 34 0 0 -1 0 0");
        x = blown("boat 3 2 8 99;boat 2 2 50 99;", -250, 40);
        Check.due("boat 1 from the right", Check.boat(x, 1), "2 2 50 99 1 -34 0 0 -1 0 0");
        x = blown("boat 2 1 60 99;boat 2 2 20 99;", 5, 200, 7, 20);
        Check.due("boat 0 from above", Check.boat(x, 0), "2 1 60 99 1 5 0 0 -1 0 1");
        // 20 + 150, and then it moves by itself
        Check.due("boat 1 below", Check.boat(x, 1), "2 3 20 99 1 7 70 0 -1 1 0");
        x = blown("boat 2 2 20 99;boat 2 3 60 99;", 0, 0, 0, -200);
        Check.due("boat 0, whose move is over", Check.boat(x, 0), "2 2 20 99 1 0 -150 0 -1 0 0");
        x = blown("boat 2 2 20 99;boat 2 3 60 99;", 0, -90, 0, -300);
        Check.due("boat 0 pushed beyond the limit", x.boat(0, 6), -300);
        x = blown("boat 2 2 10 99;boat 3 2 10 99;boat 2 1 10 99;", 200, -200);
        Check.due("boat 0 twice", Check.boat(x, 0), "2 2 10 99 1 0 0 0 -1 0 2");
        x = blown("boat 2 2 10 99;boat 3 1 10 99;", 100, -100);
        Check.due("boat 0 right and then against a boat", Check.boat(x, 0), "3 2 10 99 1 0 0 0 -1 1 1");
        Check.due("boat 1", x.boat(1, 6), -50);
        x = blown("boat 2 2 10 99;boat 2 1 10 99;", 100, -100);
        Check.due("boat 0 right and then past a boat", Check.boat(x, 0), "3 1 10 99 1 0 0 0 -1 2 0");
        x = blown("boat 2 2 10 2 wet 2;boat 1 2 10 99;", 0, 0, 50, 0);
        x.blow(1, 50, 0);
        x.turn(1);
        Check.due("boat 1 over a sunk boat", Check.boat(x, 1), "2 2 10 99 2 0 0 0 -1 1 0");
    }

    private static void order() {
        Check.part("step 2, order");
        BathBoats x = blown("boat 2 2 10 99;boat 1 2 10 99;", 100, 0, 100, 0);
        Check.due("boat 1 after boat 0", x.boat(1, 0), 2);
        Check.due("its hits", x.boat(1, 10), 0);
        x = blown("boat 1 2 10 99;boat 2 2 10 99;", 100, 0, 100, 0);
        Check.due("boat 0 against boat 1", x.boat(0, 0), 1);
        Check.due("its hits", x.boat(0, 10), 1);
        Check.due("boat 1 then", x.boat(1, 0), 3);
        Check.due("its drift", x.boat(1, 5), 50);
        BathBoats clog = Check.bath("bath 5 5 level 1000 push 0;drain 2 2 20 50;boat 1 2 60 99;boat 2 4 10 99;");
        clog.blow(0, 100, 0);
        clog.turn(1);
        Check.due("boat 0 clogs", clog.boatAt(2, 2), 0);
        Check.due("boat 1 is not drawn then", clog.boat(1, 6), 0);
        Check.due("the LEVEL, changed before", clog.size(9), 950);
        // boat 0 gets free of the drain to the right, which then draws boat 1 by 12.5 * 950 / 100
        clog.blow(0, 300, 0);
        clog.blow(0, 150, 0);
        clog.turn(1);
        Check.due("boat 0 sets free", clog.boat(0, 0), 3);
        Check.due("boat 1 is drawn then", clog.boat(1, 1), 3);
        Check.due("the LEVEL, not changed before", clog.size(9), 950);
        BathBoats both = Check.bath("bath 5 5 level 549 push 0;drain 2 0 99 49;boat 1 1 5 99;");
        both.turn(1);
        // 49 / 2 / 2 = 12.25, * 500 / 50 = 122.5 in both directions, also after the move to the right
        Check.due("both components by the flow before the moves", Check.boat(both, 0).substring(0, 17), "2 0 5 99 1 22 -22");
    }

    private static void wetness() {
        Check.part("step 3, wetness");
        BathBoats x = Check.bath("bath 5 5 level 0;boat 0 0 1 99;boat 2 0 1 99;boat 4 0 1 99;boat 0 4 1 99;soap 0 0 9;"
                + "soap 2 0 19;soap 4 0 20;soap 0 4 99;");
        x.turn(1);
        int[] due = {1, 2, 3, 10};
        for (int b = 0; b < 4; b++) {
            Check.due("the wetness of boat " + b, x.boat(b, 4), due[b]);
        }
        BathBoats s = Check.bath("bath 5 5 level 0;drain 4 4 9 1;boat 0 0 1 1;boat 4 4 1 1 wet 1;boat 2 2 1 3 wet 2;");
        s.turn(1);
        Check.due("boat 0 at its strength", Check.boat(s, 0), "0 0 1 1 1 0 0 0 -1 0 0");
        Check.due("boat 1 sinks before it is drained", Check.boat(s, 1), "4 4 1 1 2 0 0 1 1 0 0");
        Check.due("drain 0", s.drain(0, 5), 0);
        Check.due("boat 2 at its strength", s.boat(2, 7), 0);
        s.turn(1);
        Check.due("boat 0 beyond its strength", Check.boat(s, 0), "0 0 1 1 2 0 0 1 2 0 0");
        Check.due("boat 2 beyond its strength", s.boat(2, 8), 2);
    }

    private static void draining() {
        Check.part("step 3, draining");
        BathBoats x = Check.bath("bath 5 5 level 0;drain 0 0 9 1;drain 2 0 9 1;drain 4 0 9 0;boat 0 0 9 99;boat 2 0 10 99;"
                + "boat 4 0 9 99;");
        x.turn(3);
        Check.due("boat 0 of the drain's size", Check.boat(x, 0), "0 0 9 99 1 0 0 2 1 0 0");
        Check.due("boat 1 greater", Check.boat(x, 1), "2 0 10 99 3 0 0 0 -1 0 0");
        Check.due("boat 2 on a closed drain", Check.boat(x, 2), "4 0 9 99 3 0 0 0 -1 0 0");
        Check.due("drain 0", Check.drain(x, 0), "0 0 9 1 1 1");
        Check.due("drain 1", Check.drain(x, 1), "2 0 9 1 0 0");
        Check.due("drain 2", Check.drain(x, 2), "4 0 9 0 0 0");
        x.setDrain(2, 1);
        x.addBoat(0, 0, 1, 99);
        x.turn(1);
        Check.due("drain 0 again", x.drain(0, 5), 2);
        Check.due("drain 2 opened", x.drain(2, 5), 1);
        Check.due("the time of boat 2", x.boat(2, 8), 4);
    }

    private static void spreading() {
        Check.part("step 4");
        BathBoats x = Check.bath("bath 3 3 level 0;soap 1 1 4;");
        x.turn(1);
        Check.due("4 in the middle", Check.soaps(x), "0 1 0,1 0 1,0 1 0");
        x = Check.bath("bath 3 3 level 0;soap 1 1 3;soap 0 0 4;soap 2 1 4;");
        x.turn(1);
        Check.due("3 does not spread", Check.soaps(x), "2 1 1,1 4 1,0 0 1");
        x = Check.bath("bath 3 3 level 0;soap 1 1 99;soap 1 0 99;soap 0 0 99;");
        x.turn(1);
        Check.due("99", Check.soaps(x), "98 98 1,2 96 1,0 1 0");
        x = Check.bath("bath 4 3 level 0;soap 0 0 4;soap 1 0 3;soap 3 2 9;");
        x.turn(1);
        Check.due("all at the same time", Check.soaps(x), "2 4 0 0,1 0 0 1,0 0 1 7");
        x = Check.bath("bath 3 3 level 9 push 9;boat 0 1 9 99;soap 1 1 5;");
        x.turn(1);
        Check.due("soap pushes before it spreads", x.boat(0, 5), -45);
    }

    private static void answers() {
        Check.part("promise 43, turn");
        BathBoats x = Check.bath("bath 5 5 level 0;drain 4 4 9 1;boat 0 0 1 1;boat 4 4 1 1;boat 2 2 1 3 wet 2;boat 1 1 1 999;");
        Check.due("turn(1)", x.turn(1), 1);
        Check.due("turn(1)", x.turn(1), 2);
        Check.due("turn(1)", x.turn(1), 0);
        Check.due("turn(200)", x.turn(200), 0);
        Check.due("the time", x.size(8), 203);
        x.undo();
        Check.due("the time after undo", x.size(8), 3);
        x.undo();
        x.undo();
        Check.due("turn(200)", x.turn(200), 2);
        for (int turns : new int[] {0, -1, 201, Integer.MAX_VALUE, Integer.MIN_VALUE}) {
            Check.badArgument("turn(" + turns + ")", x, () -> x.turn(turns));
        }
    }
}
