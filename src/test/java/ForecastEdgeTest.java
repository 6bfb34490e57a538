/** Promises 22 to 28: each sentence that names a boundary, with a test of its own. */
public final class ForecastEdgeTest {
    private static final String SUNK = "bath 5 4 level 0;boat 0 0 9 99;boat 4 3 9 1 wet 1;boat 2 2 9 9;drain 4 0 9 1;boat 4 0 1 9;";

    public static void main(String[] args) {
        endsInFirst();
        endsInNow();
        endsInLast();
        endsInRange();
        emptyInFirst();
        emptyInLast();
        emptyInAgain();
        boatInTurns();
        boatInRange();
        afloatInTurns();
        afloatInRange();
        changesNothing();
        lifeOf40();
        rescueCells();
        rescueNone();
        rescueAmounts();
        rescueRange();
        refugeCells();
        refugeOfItsOwn();
        refugeNone();
        refugeRange();
        plugOfSeveral();
        plugNone();
        plugOpens();
        Check.end();
    }

    private static BathBoats sunk() {
        BathBoats x = Check.bath(SUNK);
        x.turn(1);
        return x;
    }

    private static void endsInFirst() {
        Check.sentence("promise 22", "after how many turns (0 to 300) a boat is not afloat for the first time");
        BathBoats x = Check.bath("bath 5 5 level 0;drain 4 4 9 1;boat 0 0 1 1 wet 1;boat 0 1 1 1;boat 4 4 9 99;boat 2 2 1 50 wet 3;");
        int[] due = {1, 2, 1, 48};
        for (int b = 0; b < 4; b++) {
            Check.due("endsIn(" + b + ")", x.endsIn(b), due[b]);
        }
        x.turn(1);
        Check.due("endsIn(1) a turn later", x.endsIn(1), 1);
        Check.due("endsIn(3) a turn later", x.endsIn(3), 47);
        x.dry(3);
        Check.due("endsIn(3) of a dry one", x.endsIn(3), 51);
    }

    private static void endsInNow() {
        Check.sentence("promise 22", "(0 if it is not afloat now)");
        BathBoats x = sunk();
        Check.due("endsIn of a sunk boat", x.endsIn(1), 0);
        Check.due("endsIn of a drained boat", x.endsIn(3), 0);
        x.turn(200);
        Check.due("endsIn of a sunk boat, later", x.endsIn(1), 0);
        x.undo();
        x.undo();
        Check.due("endsIn of a boat that sinks next", x.endsIn(1), 1);
        Check.due("endsIn of a boat that is drained next", x.endsIn(3), 1);
    }

    private static void endsInLast() {
        Check.sentence("promise 22", "NONE if it is still afloat after 300");
        BathBoats x = Check.bath("bath 5 5 level 0;boat 0 0 1 298;boat 1 0 1 299;boat 2 0 1 300;boat 3 0 1 301;boat 4 0 1 999;");
        int[] due = {299, 300, -1, -1, -1};
        for (int b = 0; b < 5; b++) {
            Check.due("endsIn(" + b + ")", x.endsIn(b), due[b]);
        }
        x.turn(1);
        Check.due("endsIn(2) a turn later", x.endsIn(2), 300);
        Check.due("endsIn(3) a turn later", x.endsIn(3), -1);
    }

    private static void endsInRange() {
        Check.sentence("promise 22", "if there is no such boat");
        BathBoats x = sunk();
        for (int b : new int[] {-1, 4, 12}) {
            Check.noElement("endsIn(" + b + ")", x, () -> x.endsIn(b));
        }
        for (int b : Check.FAR_NUMBERS) {
            Check.noElement("endsIn(" + b + ")", x, () -> x.endsIn(b));
        }
        BathBoats none = new BathBoats();
        Check.noElement("endsIn(0) without boats", none, () -> none.endsIn(0));
    }

    private static int emptyIn(int level, String clauses) {
        return Check.bath("bath 5 5 level " + level + ";" + clauses).emptyIn();
    }

    private static void emptyInFirst() {
        Check.sentence("promise 23", "after how many turns (0 to 300) the LEVEL is 0 for the first time");
        Check.due("at once", emptyIn(0, ""), 0);
        Check.due("at once, though a tap will fill it", emptyIn(0, "tap 0 0 99;"), 0);
        Check.due("in the next turn", emptyIn(9, "drain 0 0 9 9;"), 1);
        Check.due("in the next turn, by more than needed", emptyIn(1, "drain 0 0 9 99;"), 1);
        Check.due("one short of it", emptyIn(10, "drain 0 0 9 9;"), 2);
        Check.due("against a tap", emptyIn(1000, "drain 0 0 9 99;tap 1 1 95;"), 250);
        // clogged until the boat sinks in turn 5
        Check.due("when the drain is set free", emptyIn(9, "drain 0 0 9 9;boat 0 0 10 4;"), 6);
    }

    private static void emptyInLast() {
        Check.sentence("promise 23", "NONE if it is not in 300");
        Check.due("299", emptyIn(299, "drain 0 0 9 1;"), 299);
        Check.due("300", emptyIn(300, "drain 0 0 9 1;"), 300);
        Check.due("301", emptyIn(301, "drain 0 0 9 1;"), -1);
        Check.due("by 3 and 900", emptyIn(900, "drain 0 0 9 3;"), 300);
        Check.due("by 3 and 901", emptyIn(901, "drain 0 0 9 3;"), -1);
        Check.due("without drains", emptyIn(1, ""), -1);
        Check.due("against an equal tap", emptyIn(1, "drain 0 0 9 9;tap 1 1 9;"), -1);
    }

    private static void emptyInAgain() {
        Check.sentence("promise 23", "the LEVEL is 0 for the first time");
        BathBoats y = Check.bath("bath 5 3 level 10;drain 0 0 9 9;tap 4 2 3;");
        Check.due("a bath that fills and empties", y.emptyIn(), 2);
        y.turn(2);
        Check.due("the LEVEL then", y.size(9), 0);
        Check.due("emptyIn() then", y.emptyIn(), 0);
    }

    private static void boatInTurns() {
        Check.sentence("promise 24", "0 to 300");
        BathBoats x = Check.bath("bath 5 5 level 0;boat 0 0 1 299;boat 1 1 1 300;");
        Check.due("boatIn(0, 4, 0)", x.boatIn(0, 4, 0), 0);
        Check.due("boatIn(0, 4, 1)", x.boatIn(0, 4, 1), 1);
        Check.due("boatIn(0, 4, 299)", x.boatIn(0, 4, 299), 299);
        Check.due("boatIn(0, 8, 299)", x.boatIn(0, 8, 299), -1);
        Check.due("boatIn(0, 8, 300)", x.boatIn(0, 8, 300), 300);
        Check.due("boatIn(1, 4, 300)", x.boatIn(1, 4, 300), 300);
        Check.due("boatIn(1, 7, 300)", x.boatIn(1, 7, 300), 0);
        Check.due("boatIn(1, 10, 300)", x.boatIn(1, 10, 300), 0);
        for (int turns : new int[] {-1, 301, Integer.MAX_VALUE, Integer.MIN_VALUE}) {
            Check.badArgument("boatIn(0, 0, " + turns + ")", x, () -> x.boatIn(0, 0, turns));
            Check.badArgument("boatIn(1, 10, " + turns + ")", x, () -> x.boatIn(1, 10, turns));
        }
        x.turn(200);
        x.turn(200);
        Check.due("boatIn(0, 8, 0) of a sunk boat", x.boatIn(0, 8, 0), 300);
        Check.due("boatIn(0, 8, 300) of a sunk boat", x.boatIn(0, 8, 300), 300);
    }

    private static void boatInRange() {
        Check.sentence("promise 24", "if there is no such boat or what is out of range (checked first)");
        BathBoats x = sunk();
        for (int turns : new int[] {0, 300, -1, 301}) {
            for (int b : new int[] {-1, 4, 12, 390451573, Integer.MAX_VALUE, Integer.MIN_VALUE}) {
                Check.noElement("boatIn(" + b + ", 0, " + turns + ")", x, () -> x.boatIn(b, 0, turns));
            }
            for (int what : new int[] {-1, 11, Integer.MAX_VALUE, Integer.MIN_VALUE}) {
                Check.noElement("boatIn(0, " + what + ", " + turns + ")", x, () -> x.boatIn(0, what, turns));
                Check.noElement("boatIn(3, " + what + ", " + turns + ")", x, () -> x.boatIn(3, what, turns));
            }
        }
        BathBoats none = new BathBoats();
        Check.noElement("boatIn(0, 0, 0) without boats", none, () -> none.boatIn(0, 0, 0));
    }

    private static void afloatInTurns() {
        Check.sentence("promise 25", "how many boats are afloat after some turns");
        BathBoats x = Check.bath("bath 5 5 level 0;boat 0 0 1 1 wet 1;boat 1 0 1 1;boat 2 0 1 299;boat 3 0 1 300;boat 4 0 1 999;");
        int[][] due = {{0, 5}, {1, 4}, {2, 3}, {299, 3}, {300, 2}};
        for (int[] d : due) {
            Check.due("afloatIn(" + d[0] + ")", x.afloatIn(d[0]), d[1]);
        }
        Check.due("afloatIn(300) without boats", new BathBoats().afloatIn(300), 0);
        Check.due("afloatIn(0) of 12", StateEdgeTest.full().afloatIn(0), 12);
    }

    private static void afloatInRange() {
        Check.sentence("promise 25", "0 to 300");
        BathBoats x = sunk();
        for (int turns : new int[] {-1, 301, Integer.MAX_VALUE, Integer.MIN_VALUE}) {
            Check.badArgument("afloatIn(" + turns + ")", x, () -> x.afloatIn(turns));
        }
        Check.due("afloatIn(0)", x.afloatIn(0), 2);
        Check.due("afloatIn(300)", x.afloatIn(300), 0);
    }

    private static void changesNothing() {
        Check.sentence("Operations", "A forecast tells what calls of turn would lead to if nothing else was done; it changes nothing.");
        BathBoats x = Check.bath("bath 6 5 level 600 push 4 wind -9 12;drain 1 1 30 40;drain 4 3 60 55;tap 5 0 60;"
                + "boat 2 2 10 60;boat 3 1 25 15 wet 3;boat 5 4 70 900;soap 3 3 60;");
        x.turn(2);
        x.saveSnapshot();
        String saved = Check.state(x);
        x.setPush(2);
        x.format(2);
        int[] row = {x.formattedByte(0), x.formattedByte(1), x.formattedByte(2), x.formattedByte(3), x.formattedByte(4)};
        Check.feed(x, "many 0 = 0          ");
        String before = Check.picture(x);
        for (int b = 0; b < 3; b++) {
            x.endsIn(b);
            x.boatIn(b, 3, 300);
            x.rescue(b, 99);
            x.refuge(b);
        }
        x.emptyIn();
        x.afloatIn(300);
        x.plug();
        Check.due("the picture", Check.picture(x), before);
        for (int i = 0; i < 5; i++) {
            Check.due("formattedByte(" + i + ")", x.formattedByte(i), row[i]);
        }
        Check.due("the buffer", x.query(10), 3);
        x.undo();
        Check.due("the state after undo", Check.state(x), saved);
        x.turn(5);
        Check.due("restoreSnapshot()", x.restoreSnapshot(), true);
        Check.due("the snapshot", Check.state(x), saved);
    }

    private static void lifeOf40() {
        Check.sentence("promise 26", "The life of a boat is the number of turns, of the next 40, after which it is still afloat.");
        // by 10 of soap a boat gets wetter by 2 in a turn, so that it sinks by a turn of 40, or of 41
        for (int strength = 76; strength <= 82; strength++) {
            BathBoats x = Check.bath("bath 3 3 level 0;boat 0 0 9 " + strength + ";soap 0 0 13;soap 1 0 13;soap 0 1 13;soap 1 1 13;"
                    + "soap 2 0 13;soap 0 2 13;soap 2 1 13;soap 1 2 13;soap 2 2 13;");
            int ends = x.endsIn(0);
            Check.due("endsIn of strength " + strength, ends, strength / 2 + 1);
            // no cell is better: carried or not, the soap is the same everywhere
            Check.due("refuge", x.refuge(0), -1);
            x.wipe(2, 2);
            // the cell without soap is better by some turns, as long as the life is not 40 already
            Check.due("refuge with a cell wiped, of life " + (ends - 1), x.refuge(0) >= 0, ends <= 40);
        }
    }

    /** A boat that the wind drives into the drain to its right in turn 1, and that soap on or above the drain can save. */
    private static BathBoats driven(int strength) {
        return Check.bath("bath 3 3 push 9 wind 99 0;drain 1 1 20 1;boat 0 1 10 " + strength + ";");
    }

    private static void rescueCells() {
        Check.sentence("promise 26", "would give a boat the longest life, of several the smallest number");
        BathBoats x = driven(2);
        Check.due("endsIn(0)", x.endsIn(0), 1);
        Check.due("rescue(0, 1)", x.rescue(0, 1), 4);
        Check.due("rescue(0, 99)", x.rescue(0, 99), 0);
        int[] lives = new int[9];
        for (int amount : new int[] {1, 2, 5, 30, 99}) {
            BathBoats longer = driven(90);
            int best = -1;
            int longest = 0;
            for (int cell = 0; cell < 9; cell++) {
                longer.dropSoap(cell % 3, cell / 3, amount);
                int ends = longer.endsIn(0);
                lives[cell] = ends < 0 ? 40 : Math.min(ends - 1, 40);
                longer.undo();
                if (lives[cell] > longest) {
                    longest = lives[cell];
                    best = cell;
                }
            }
            Check.due("rescue(0, " + amount + ") of a strong boat", longer.rescue(0, amount), best);
        }
    }

    private static void rescueNone() {
        Check.sentence("promise 26", "NONE if in no cell this life is longer than without, or if the boat is not afloat");
        BathBoats x = sunk();
        Check.due("rescue of a sunk boat", x.rescue(1, 1), -1);
        Check.due("rescue of a drained boat", x.rescue(3, 99), -1);
        Check.due("rescue of a boat that only gets wetter", x.rescue(2, 99), -1);
        Check.due("rescue of a boat that lives on", x.rescue(0, 99), -1);
        Check.due("rescue of a boat that sinks now", Check.bath("bath 3 3 level 0;boat 0 0 1 1 wet 1;").rescue(0, 1), -1);
        // where all soap is at 99 already nothing can be added
        BathBoats full = Check.bath("bath 3 3 push 0 wind 99 0;drain 1 1 20 1;boat 0 1 10 90;");
        for (int cell = 0; cell < 9; cell++) {
            full.dropSoap(cell % 3, cell / 3, 99);
        }
        Check.due("rescue in a bath full of soap", full.rescue(0, 99), -1);
    }

    private static void rescueAmounts() {
        Check.sentence("promise 26", "in which soap, dropped now as by dropSoap");
        // 98 and 5 are 99, so that the soap to the right pushes by 99 * 9 at most
        BathBoats x = Check.bath("bath 3 3 push 1 wind 99 0;drain 1 1 20 1;boat 0 1 5 50;soap 1 1 98;");
        BathBoats y = Check.bath("bath 3 3 push 1 wind 99 0;drain 1 1 20 1;boat 0 1 5 50;soap 1 1 98;");
        Check.due("the push of the wind less that of the soap", x.pushOn(0, true), 198 - 98 + (int) (x.flow(0, 1, true) * 500f / 50f));
        int without = x.endsIn(0);
        int best = -1;
        int longest = without;
        for (int cell = 0; cell < 9; cell++) {
            y.dropSoap(cell % 3, cell / 3, 5);
            int ends = y.endsIn(0) < 0 ? 41 : Math.min(y.endsIn(0), 41);
            y.undo();
            if (ends > longest) {
                longest = ends;
                best = cell;
            }
        }
        Check.due("rescue(0, 5)", x.rescue(0, 5), best);
        Check.sentence("promise 26", "1 to 99");
        for (int amount : new int[] {0, -1, 100, Integer.MAX_VALUE, Integer.MIN_VALUE}) {
            Check.badArgument("rescue(0, " + amount + ")", x, () -> x.rescue(0, amount));
        }
        BathBoats driven = driven(2);
        Check.due("rescue(0, 1)", driven.rescue(0, 1), 4);
        Check.due("rescue(0, 99)", driven.rescue(0, 99), 0);
    }

    private static void rescueRange() {
        Check.sentence("promise 26", "if there is no such boat (checked first)");
        BathBoats x = sunk();
        for (int amount : new int[] {1, 0, 100}) {
            for (int b : new int[] {-1, 4, 12, 390451573, Integer.MAX_VALUE, Integer.MIN_VALUE}) {
                Check.noElement("rescue(" + b + ", " + amount + ")", x, () -> x.rescue(b, amount));
            }
        }
        Check.badArgument("rescue(1, 0) of a sunk boat", x, () -> x.rescue(1, 0));
        Check.badArgument("rescue(3, 100) of a drained boat", x, () -> x.rescue(3, 100));
    }

    private static void refugeCells() {
        Check.sentence("promise 27", "would have the longest life (see rescue), of several the smallest number");
        // soap of 13 makes a boat wetter by one more in the first turn alone
        String text = "bath 3 3 level 0;boat 1 1 9 30;soap 1 1 13;";
        Check.due("refuge(0) of eight cells", Check.bath(text).refuge(0), 0);
        Check.due("refuge(0) of seven cells", Check.bath(text + "soap 0 0 13;").refuge(0), 1);
        Check.due("refuge(0) of the last cell", Check.bath(text + "soap 0 0 13;soap 1 0 13;soap 2 0 13;soap 0 1 13;soap 2 1 13;"
                + "soap 0 2 13;soap 1 2 13;").refuge(0), 8);
        Check.sentence("promise 27", "the cell in which no other boat is afloat");
        BathBoats taken = Check.bath(text + "boat 0 0 9 90;boat 1 0 9 1 wet 1;boat 2 0 9 90;");
        Check.due("refuge(0) with boats in three cells", taken.refuge(0), 3);
        taken.turn(1);
        taken.wipe(1, 1);
        taken.dropSoap(1, 1, 13);
        Check.due("refuge(0) when one of them has sunk", taken.refuge(0), 1);
    }

    private static void refugeOfItsOwn() {
        Check.sentence("promise 27", "carried there now as by carry (its own cell is allowed, too)");
        // all other cells are taken, and by standing still the boat does not get into the drain beside it
        BathBoats x = Check.bath("bath 3 3;drain 2 0 20 1;boat 1 0 10 5;boat 0 0 99 9;boat 2 2 99 9;boat 0 1 99 9;boat 1 1 99 9;"
                + "boat 2 1 99 9;boat 0 2 99 9;boat 1 2 99 9;");
        Check.due("refuge(0) without drift", x.refuge(0), -1);
        x.blow(0, 100, 0);
        Check.due("endsIn(0)", x.endsIn(0), 1);
        Check.due("refuge(0) in its own cell", x.refuge(0), 1);
        Check.due("the drift of the boat", x.boat(0, 5), 100);
    }

    private static void refugeNone() {
        Check.sentence("promise 27", "NONE if in no such cell this life is longer than without being carried, or if the boat is "
                + "not afloat");
        BathBoats x = sunk();
        Check.due("refuge of a sunk boat", x.refuge(1), -1);
        Check.due("refuge of a drained boat", x.refuge(3), -1);
        Check.due("refuge of a boat that lives on", x.refuge(0), -1);
        Check.due("refuge of a boat in still water", x.refuge(2), -1);
        Check.due("refuge of a boat that sinks now", Check.bath("bath 3 3 level 0;boat 0 0 1 1 wet 1;").refuge(0), -1);
        for (int strength = 39; strength <= 43; strength++) {
            BathBoats wet = Check.bath("bath 3 3 level 0;boat 1 1 1 " + strength + ";soap 1 1 13;");
            Check.due("endsIn(0) of strength " + strength, wet.endsIn(0), strength);
            Check.due("refuge(0) of strength " + strength, wet.refuge(0), strength <= 40 ? 0 : -1);
        }
    }

    private static void refugeRange() {
        Check.sentence("promise 27", "if there is no such boat");
        BathBoats x = sunk();
        for (int b : new int[] {-1, 4, 12, 390451573, Integer.MAX_VALUE, Integer.MIN_VALUE}) {
            Check.noElement("refuge(" + b + ")", x, () -> x.refuge(b));
        }
        BathBoats none = new BathBoats();
        Check.noElement("refuge(0) without boats", none, () -> none.refuge(0));
    }

    private static void plugOfSeveral() {
        Check.sentence("promise 28", "of several the smallest number");
        String drains = "bath 9 9 level 0;drain 0 0 9 1;drain 4 4 9 1;drain 8 8 9 1;drain 8 0 9 1;drain 0 8 9 1;";
        Check.due("plug() of the last one", Check.bath(drains + "boat 0 8 9 99;").plug(), 4);
        Check.due("plug() of two", Check.bath(drains + "boat 8 0 9 99;boat 4 4 9 99;").plug(), 1);
        Check.due("plug() of all", Check.bath(drains + "boat 8 0 9 99;boat 4 4 9 99;boat 0 0 9 99;boat 8 8 9 99;boat 0 8 9 99;").plug(), 0);
        Check.sentence("promise 28", "the most boats are afloat after 40 turns");
        Check.due("of strength 40", Check.bath("bath 3 3 level 0;drain 0 0 9 1;boat 0 0 9 40;").plug(), 0);
        Check.due("of strength 39", Check.bath("bath 3 3 level 0;drain 0 0 9 1;boat 0 0 9 39;").plug(), -1);
        Check.due("of the stronger one", Check.bath("bath 3 3 level 0;drain 0 0 9 1;drain 2 2 9 1;boat 0 0 9 39;boat 2 2 9 40;").plug(), 1);
    }

    private static void plugNone() {
        Check.sentence("promise 28", "NONE if with no drain these are more than without a change");
        Check.due("without drains", Check.bath("bath 3 3;boat 0 0 9 99;").plug(), -1);
        Check.due("without boats", Check.bath("bath 3 3;drain 0 0 9 9;").plug(), -1);
        Check.due("of a bath with nothing", new BathBoats().plug(), -1);
        Check.due("of a closed drain", Check.bath("bath 3 3;drain 0 0 9 0;boat 0 0 9 99;").plug(), -1);
        Check.due("of a drain that is too small", Check.bath("bath 3 3 level 0;drain 0 0 9 9;boat 0 0 10 99;").plug(), -1);
    }

    private static void plugOpens() {
        Check.sentence("promise 28", "if its rate is set to 0 now");
        BathBoats x = Check.bath("bath 3 3 level 0;drain 1 1 9 99;boat 1 1 9 99;");
        Check.due("plug()", x.plug(), 0);
        Check.due("the rate after plug()", x.drain(0, 3), 99);
        Check.due("afloatIn(40) as it is", x.afloatIn(40), 0);
        x.setDrain(0, 0);
        Check.due("afloatIn(40) when it is closed", x.afloatIn(40), 1);
        Check.due("plug() when it is closed", x.plug(), -1);
    }
}
