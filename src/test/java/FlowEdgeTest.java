/** Promises 13 to 16 with "Flow": each sentence that names a boundary, with a test of its own. */
public final class FlowEdgeTest {
    public static void main(String[] args) {
        noSource();
        onlyWorkingDrains();
        ownCell();
        everyCell();
        orderOfShares();
        flowCells();
        pushOnNothing();
        pushOnFirst();
        pushOnUnlimited();
        pushOnRounds();
        pushOnEdges();
        pushOnRange();
        strongestTies();
        strongestOfAll();
        calmLimits();
        calmJustAbove();
        calmMazes();
        calmArguments();
        Check.end();
    }

    /** The drains that work, and then the taps: x, y, rate, and 1 or -1. */
    private static int[][] sources(BathBoats x) {
        int[][] all = new int[x.size(11) + x.size(3)][];
        int count = 0;
        for (int d = 0; d < x.size(2); d++) {
            if (x.drain(d, 4) == 1) {
                all[count++] = new int[] {x.drain(d, 0), x.drain(d, 1), x.drain(d, 3), 1};
            }
        }
        for (int t = 0; t < x.size(3); t++) {
            all[count++] = new int[] {x.tap(t, 0), x.tap(t, 1), x.tap(t, 2), -1};
        }
        return all;
    }

    /** A component of the flow by the words of "Flow", the sources in the order in which they are given. */
    private static float byWords(int[][] sources, int x, int y, boolean across) {
        float component = 0;
        for (int[] s : sources) {
            int dx = s[0] - x;
            int dy = s[1] - y;
            if (dx != 0 || dy != 0) {
                float pull = (float) s[2] / (float) (dx * dx + dy * dy);
                float share = (pull * (float) (across ? dx : dy)) / (float) (Math.abs(dx) + Math.abs(dy));
                component = s[3] > 0 ? component + share : component - share;
            }
        }
        return component;
    }

    private static float force(int[][] sources, int x, int y) {
        return Math.abs(byWords(sources, x, y, true)) + Math.abs(byWords(sources, x, y, false));
    }

    private static final String[] BUSY = {
        "bath 10 10;drain 0 0 9 99;drain 9 0 9 98;drain 0 9 9 97;drain 9 9 9 96;drain 5 5 9 95;"
                + "tap 4 4 99;tap 1 0 94;tap 0 1 93;tap 8 9 92;tap 2 7 91;",
        "bath 3 3;drain 0 0 9 7;drain 1 0 9 11;drain 2 0 9 13;tap 0 2 17;tap 1 2 19;tap 2 2 23;boat 1 0 10 9;",
        "bath 10 3;drain 9 2 9 1;tap 0 0 1;drain 3 1 9 3;tap 6 1 0;drain 4 0 9 0;",
        "bath 3 10;tap 1 1 99;tap 1 8 99;drain 0 4 9 50;drain 2 5 9 50;"};

    private static void noSource() {
        Check.sentence("Flow", "Both start at 0.");
        BathBoats x = new BathBoats();
        for (int cell = 0; cell < 25; cell++) {
            Check.due("the flow in cell " + cell, x.flow(cell % 5, cell / 5, cell % 2 == 0), 0f);
        }
    }

    private static void onlyWorkingDrains() {
        Check.sentence("Flow", "Then each drain that works contributes, by number, and after them each tap, by number");
        BathBoats x = Check.bath("bath 5 5;drain 0 2 9 0;drain 4 2 9 8;boat 4 2 10 9;tap 2 0 0;");
        Check.due("the flow of a closed drain, a clogged one and a tap of rate 0", x.flow(2, 2, true), 0f);
        x.setDrain(0, 1);
        Check.due("the flow of rate 1", x.flow(2, 2, true), 1f / 4f * -2f / 2f);
        x.carry(0, 2, 4);
        Check.due("the flow of both drains", x.flow(2, 2, true), -0.25f + 2f);
        x.setTap(0, 1);
        Check.due("the flow of the tap", x.flow(2, 2, false), 0.25f);
    }

    private static void ownCell() {
        Check.sentence("Flow", "a drain or tap in this very cell contributes nothing");
        BathBoats x = Check.bath("bath 5 5;drain 1 1 9 99;tap 3 3 99;");
        Check.due("the flow in the drain's cell", x.flow(1, 1, true), -(99f / 8f * 2f / 4f));
        Check.due("the flow in the tap's cell", x.flow(3, 3, true), 99f / 8f * -2f / 4f);
        x.setTap(0, 0);
        Check.due("the flow in the drain's cell, of it alone", x.flow(1, 1, true), 0f);
        Check.due("the other component", x.flow(1, 1, false), 0f);
        x.setTap(0, 9);
        x.setDrain(0, 0);
        Check.due("the flow in the tap's cell, of it alone", x.flow(3, 3, true), 0f);
        Check.due("the other component", x.flow(3, 3, false), 0f);
        Check.due("the flow beside the tap", x.flow(4, 3, true), 9f);
        Check.due("the flow on the other side", x.flow(2, 3, true), -9f);
    }

    private static void everyCell() {
        Check.sentence("Flow", "The shares are added to the components for a drain, and subtracted from them for a tap.");
        for (String text : BUSY) {
            BathBoats x = Check.bath(text);
            int[][] sources = sources(x);
            for (int row = 0; row < x.size(1); row++) {
                for (int column = 0; column < x.size(0); column++) {
                    String cell = " in " + column + ", " + row + " of " + text;
                    Check.due("x" + cell, x.flow(column, row, true), byWords(sources, column, row, true));
                    Check.due("y" + cell, x.flow(column, row, false), byWords(sources, column, row, false));
                }
            }
        }
    }

    private static void orderOfShares() {
        Check.sentence("Flow", "by number, and after them each tap, by number");
        BathBoats x = Check.bath(BUSY[0]);
        int[][] sources = sources(x);
        int[][] turned = new int[sources.length][];
        for (int i = 0; i < sources.length; i++) {
            turned[i] = sources[sources.length - 1 - i];
        }
        int others = 0;
        for (int cell = 0; cell < 100; cell++) {
            float due = byWords(sources, cell % 10, cell / 10, true);
            others += due == byWords(turned, cell % 10, cell / 10, true) ? 0 : 1;
            Check.due("x in cell " + cell, x.flow(cell % 10, cell / 10, true), due);
        }
        Check.due("the order counts in some cells", others > 9, true);
    }

    private static void flowCells() {
        Check.sentence("promise 13", "if there is no such cell");
        BathBoats x = Check.bath("bath 5 4;tap 0 0 1;");
        Check.due("the flow in the last cell", x.flow(4, 3, true), 1f / 25f * 4f / 7f);
        Check.due("the flow in the first cell", x.flow(0, 0, false), 0f);
        for (int[] c : new int[][] {{-1, 0}, {5, 0}, {0, -1}, {0, 4}, {5, 3}, {4, 4}, {-1, 1}, {5, -1}}) {
            Check.noElement("flow in " + c[0] + ", " + c[1], x, () -> x.flow(c[0], c[1], true));
        }
        for (int n : Check.FAR_NUMBERS) {
            Check.noElement("flow in column " + n, x, () -> x.flow(n, 0, false));
            Check.noElement("flow in row " + n, x, () -> x.flow(1, n, true));
        }
    }

    private static void pushOnNothing() {
        Check.sentence("promise 14", "0 if the boat is not afloat or the LEVEL is 0");
        BathBoats x = Check.bath("bath 5 5 level 0 push 9 wind 99 -99;drain 4 2 9 50;boat 0 2 1 9;boat 2 2 1 1 wet 1;soap 0 1 9;");
        Check.due("pushOn at LEVEL 0", x.pushOn(0, true), 0);
        Check.due("pushOn at LEVEL 0", x.pushOn(0, false), 0);
        x.turn(1);
        Check.due("pushOn of a sunk boat at LEVEL 0", x.pushOn(1, true), 0);
        x.setLevel(1);
        Check.due("pushOn of a sunk boat at LEVEL 1", x.pushOn(1, true), 0);
        // 50 / 16 * 1 / 10 is less than 1
        Check.due("pushOn at LEVEL 1", x.pushOn(0, true), 990);
        Check.due("pushOn at LEVEL 1", x.pushOn(0, false), -990 + 9 * x.soap(0, 1));
        BathBoats drained = Check.bath("bath 5 5 wind 9 9;drain 2 2 9 1;boat 2 2 1 9;");
        drained.turn(1);
        Check.due("pushOn of a drained boat", drained.pushOn(0, true), 0);
    }

    private static void pushOnFirst() {
        Check.sentence("promise 14", "if it was the first boat to drift and the LEVEL was what it is now");
        BathBoats x = Check.bath("bath 5 5 level 400 push 0;drain 2 2 5 50;tap 4 4 90;boat 1 2 6 9;boat 2 4 2 9;");
        x.blow(0, 100, 0);
        float down = 50f / 4f * -2f / 2f + -(90f / 4f * 0f / 2f);
        // boat 0 would clog the drain before boat 1 drifts, and the LEVEL would be 440 by then
        Check.due("pushOn(1, false)", x.pushOn(1, false), (int) (down * 400f / 20f));
        x.turn(1);
        Check.due("boat 0 clogs the drain", x.boatAt(2, 2), 0);
        Check.due("boat 1 then", x.boat(1, 6), 0);
        Check.due("pushOn(1, false) then", x.pushOn(1, false), 0);
    }

    private static void pushOnUnlimited() {
        Check.sentence("promise 14", "before it is limited");
        BathBoats x = Check.bath("bath 3 3 level 1000 push 9 wind 99 99;drain 1 0 9 99;drain 1 1 9 99;tap 0 0 99;boat 0 1 1 9;"
                + "boat 1 2 1 9;");
        x.dropSoap(0, 0, 99);
        x.dropSoap(0, 2, 99);
        float across = 99f / 2f * 1f / 2f + 99f;
        float down = -(99f / 2f) / 2f - 99f * -1f / 1f;
        Check.due("pushOn(0, true)", x.pushOn(0, true), (int) (across * 1000f / 10f) + 990);
        Check.due("pushOn(0, false)", x.pushOn(0, false), (int) (down * 1000f / 10f) + 9 * (99 - 99) + 990);
        x.blow(0, 300, 300);
        Check.due("pushOn(0, true) at the limit", x.pushOn(0, true), (int) (across * 1000f / 10f) + 990);
        x.wipe(0, 2);
        Check.due("pushOn(0, false) by all the soap", x.pushOn(0, false), (int) (down * 1000f / 10f) + 891 + 990);
    }

    private static void pushOnRounds() {
        Check.sentence("A turn", "which alone is cast to an int");
        // 9 / 4 / 2 * 2 = 2.25, * 400 / 80 = 11.25
        BathBoats x = Check.bath("bath 5 5 level 400 push 1 wind 7 -7;drain 0 2 20 9;boat 2 2 8 9;soap 1 2 1;");
        Check.due("pushOn(0, true): -11.25, 1 and 8.75", x.pushOn(0, true), -11 + 1 + 8);
        Check.due("pushOn(0, false): -8.75", x.pushOn(0, false), -8);
        x.carry(0, 1, 2);
        x.setLevel(79);
        // 9 * 79 / 80 = 8.8875
        Check.due("pushOn(0, true): -8.8875 and 8.75", x.pushOn(0, true), 0);
        x.setLevel(80);
        Check.due("pushOn(0, true): -9 and 8.75", x.pushOn(0, true), -1);
    }

    private static void pushOnEdges() {
        Check.sentence("A turn", "Soap outside the bath counts as 0.");
        BathBoats x = Check.bath("bath 4 3 push 2;boat 0 0 9 9;boat 3 2 9 9;soap 1 0 5;soap 0 1 6;soap 2 2 7;soap 3 1 8;soap 0 0 50;"
                + "soap 3 0 30;soap 0 2 40;soap 3 2 60;");
        Check.due("at the left border", x.pushOn(0, true), -10);
        Check.due("at the upper border", x.pushOn(0, false), -12);
        Check.due("at the right border", x.pushOn(1, true), 14);
        Check.due("at the lower border", x.pushOn(1, false), 16);
        x.carry(0, 0, 1);
        Check.due("at the left border, between soap", x.pushOn(0, false), 2 * (50 - 40));
        x.carry(0, 3, 1);
        Check.due("at the right border, between soap", x.pushOn(0, false), 2 * (30 - 60));
    }

    private static void pushOnRange() {
        Check.sentence("promise 14", "if there is no such boat");
        BathBoats x = Check.bath("bath 5 4 level 0;boat 0 0 1 1;boat 4 3 1 1;");
        for (int b : new int[] {-1, 2, 12, 390451573, Integer.MAX_VALUE, Integer.MIN_VALUE}) {
            Check.noElement("pushOn(" + b + ", true)", x, () -> x.pushOn(b, true));
            Check.noElement("pushOn(" + b + ", false)", x, () -> x.pushOn(b, false));
        }
        BathBoats none = new BathBoats();
        Check.noElement("pushOn(0, true) without boats", none, () -> none.pushOn(0, true));
    }

    private static void strongestTies() {
        Check.sentence("promise 15", "of several the smallest number");
        Check.due("without any flow", new BathBoats().strongest(), 0);
        Check.due("about a drain in the middle", Check.bath("bath 5 5;drain 2 2 9 1;").strongest(), 7);
        Check.due("about a tap in the first cell", Check.bath("bath 5 4;tap 0 0 1;").strongest(), 1);
        Check.due("about a drain in the last cell", Check.bath("bath 5 4;drain 4 3 9 1;").strongest(), 14);
        Check.due("in the last cell", Check.bath("bath 3 3;drain 2 1 9 9;drain 1 2 9 9;drain 0 0 9 9;").strongest(), 8);
        Check.due("of a closed drain", Check.bath("bath 3 3;drain 2 1 9 0;").strongest(), 0);
    }

    private static void strongestOfAll() {
        Check.sentence("promise 15", "Returns the number of the cell with the greatest force");
        for (String text : BUSY) {
            BathBoats x = Check.bath(text);
            int[][] sources = sources(x);
            int w = x.size(0);
            int best = 0;
            for (int cell = 1; cell < w * x.size(1); cell++) {
                if (force(sources, cell % w, cell / w) > force(sources, best % w, best / w)) {
                    best = cell;
                }
            }
            Check.due("strongest() of " + text, x.strongest(), best);
        }
    }

    private static void calmLimits() {
        Check.sentence("promise 16", "only cells are entered whose force is at most limit (as a float); 0 if the force in "
                + "the cell itself is greater");
        BathBoats x = Check.bath("bath 3 10;drain 1 1 9 60;");
        // 60 beside the drain, 30 at the corners of its cell, 15 two rows below, and less further on
        Check.due("calm beside the drain, at 60", x.calm(1, 0, 60), 30);
        Check.due("calm beside the drain, at 59", x.calm(1, 0, 59), 0);
        Check.due("calm in the corner, at 30", x.calm(0, 0, 30), 1);
        Check.due("calm in the corner, at 29", x.calm(0, 0, 29), 0);
        Check.due("calm in the drain's cell, at 0", x.calm(1, 1, 0), 1);
        Check.due("calm in the drain's cell, at 59", x.calm(1, 1, 59), 1);
        Check.due("calm in the drain's cell, at 60", x.calm(1, 1, 60), 30);
        Check.due("calm below the drain, at 15", x.calm(1, 3, 15), 21);
        Check.due("calm below the drain, at 14", x.calm(1, 3, 14), 0);
        Check.due("calm in the last cell, at 15", x.calm(2, 9, 15), 21);
        Check.due("calm in the last cell, at 14", x.calm(2, 9, 14), 20);
        Check.due("calm in the last cell, at 0", x.calm(2, 9, 0), 0);
        Check.due("calm at 9999", x.calm(2, 9, 9999), 30);
        Check.due("calm of still water, at 0", Check.bath("bath 10 10;").calm(9, 0, 0), 100);
    }

    private static void calmJustAbove() {
        Check.sentence("promise 16", "(as a float)");
        BathBoats above = Check.bath("bath 4 4;drain 3 0 9 50;drain 0 2 9 26;tap 3 3 23;");
        Check.due("the force", Math.abs(above.flow(1, 1, true)) + Math.abs(above.flow(1, 1, false)), 3.0000002f);
        Check.due("calm by a force just above 3, at 3", above.calm(1, 1, 3), 0);
        Check.due("calm by a force just above 3, at 4", above.calm(1, 1, 4) > 0, true);
        BathBoats one = Check.bath("bath 5 4;drain 1 1 9 15;drain 3 0 9 8;tap 2 1 33;");
        Check.due("calm by a force just above 1, at 1", one.calm(0, 3, 1), 0);
        BathBoats below = Check.bath("bath 3 5;drain 2 3 9 16;tap 0 3 28;");
        Check.due("the force", Math.abs(below.flow(1, 0, true)) + Math.abs(below.flow(1, 0, false)), 1.9999999f);
        Check.due("calm by a force just below 2, at 2", below.calm(1, 0, 2) > 0, true);
        Check.due("calm by a force just below 2, at 1", below.calm(1, 0, 1), 0);
        BathBoats small = Check.bath("bath 5 5;drain 0 3 9 82;tap 1 4 57;");
        Check.due("calm by a force just below 1, at 0", small.calm(4, 0, 0), 0);
        Check.due("calm by a force just below 1, at 1", small.calm(4, 0, 1) > 0, true);
    }

    private static void calmMazes() {
        Check.sentence("promise 16", "the cells that can be reached from it, itself included, by steps to adjacent cells");
        maze("bath 6 6;drain 2 1 9 47;drain 4 2 9 21;tap 0 5 86;tap 4 0 46;tap 3 4 50;tap 1 5 28;tap 0 2 87;", 54,
                "...#..", "##..#.", ".##...", "#..#..", "##..#.", ".#.#..");
        maze("bath 8 8;drain 2 6 9 38;drain 3 2 9 34;drain 4 3 9 16;tap 0 2 1;tap 1 0 22;tap 7 3 79;tap 0 6 8;tap 0 0 21;", 24,
                ".##.....", "####....", "..#.#.##", "...#.##.", "....#.##", "..#.....", ".#.#....", "..#.....");
        maze("bath 7 8;drain 1 2 9 84;drain 3 2 9 6;drain 6 7 9 73;drain 3 5 9 85;drain 5 6 9 17;tap 4 4 94;tap 0 2 52;", 42,
                ".......", "##.....", "###....", "##..#..", "...###.", "..####.", "...#..#", ".....#.");
    }

    private static void maze(String text, int limit, String... rows) {
        BathBoats x = Check.bath(text);
        for (int y = 0; y < rows.length; y++) {
            for (int column = 0; column < rows[y].length(); column++) {
                char[][] cells = new char[rows.length][];
                for (int i = 0; i < rows.length; i++) {
                    cells[i] = rows[i].toCharArray();
                }
                Check.due("calm(" + column + ", " + y + ", " + limit + ") of " + text, x.calm(column, y, limit),
                        reach(cells, column, y));
            }
        }
    }

    private static int reach(char[][] cells, int x, int y) {
        if (y < 0 || y >= cells.length || x < 0 || x >= cells[y].length || cells[y][x] != '.') {
            return 0;
        }
        cells[y][x] = '#';
        return 1 + reach(cells, x, y - 1) + reach(cells, x - 1, y) + reach(cells, x + 1, y) + reach(cells, x, y + 1);
    }

    private static void calmArguments() {
        Check.sentence("promise 16", "if there is no such cell (checked first)");
        BathBoats x = Check.bath("bath 5 4;tap 0 0 1;");
        for (int limit : new int[] {0, -1, 10000}) {
            for (int[] c : new int[][] {{-1, 0}, {5, 0}, {0, -1}, {0, 4}, {5, 3}, {4, 4}, {-1, 1}, {858993460, 1}, {1, 858993459}}) {
                Check.noElement("calm(" + c[0] + ", " + c[1] + ", " + limit + ")", x, () -> x.calm(c[0], c[1], limit));
            }
        }
        Check.sentence("promise 16", "0 to 9999");
        for (int limit : new int[] {-1, 10000, Integer.MAX_VALUE, Integer.MIN_VALUE}) {
            Check.badArgument("calm(0, 0, " + limit + ")", x, () -> x.calm(0, 0, limit));
            Check.badArgument("calm(4, 3, " + limit + ")", x, () -> x.calm(4, 3, limit));
        }
        Check.due("calm(4, 3, 0)", x.calm(4, 3, 0), 0);
        Check.due("calm(4, 3, 9999)", x.calm(4, 3, 9999), 20);
    }
}
