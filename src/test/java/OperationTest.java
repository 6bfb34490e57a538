import java.util.ArrayList;
import java.util.List;

/** Promises 31 to 42 and 46 to 49: the operations but pull and turn, undo and the snapshot. */
public final class OperationTest {
    private static final String START = "bath 5 4 level 0 push 2 wind 3 -4;drain 4 3 50 10;drain 0 3 5 0;tap 2 2 7;"
            + "boat 0 0 10 20 wet 3;boat 1 2 20 30;boat 3 3 5 1 wet 1;boat 4 3 60 99;soap 1 2 25;soap 4 0 98;";
    private static final int[][] NO_CELLS = {{-1, 0}, {0, -1}, {5, 0}, {0, 4}, {Integer.MAX_VALUE, 0},
        {0, Integer.MIN_VALUE}};
    private static final int[] NO_BOATS = {-1, 4, Integer.MAX_VALUE, Integer.MIN_VALUE};

    public static void main(String[] args) {
        addBoat();
        carry();
        blow();
        dry();
        setDrain();
        setTap();
        dropSoap();
        wipe();
        setPush();
        setWind();
        setLevel();
        undo();
        undoOfAll();
        snapshot();
        Check.end();
    }

    /** The bath in which boat 2 has sunk. */
    private static BathBoats start() {
        BathBoats x = Check.bath(START);
        x.turn(1);
        return x;
    }

    private static void addBoat() {
        Check.part("promise 31, addBoat");
        BathBoats x = start();
        Check.due("addBoat(2, 0, 99, 999)", x.addBoat(2, 0, 99, 999), 4);
        Check.due("boat 4", Check.boat(x, 4), "2 0 99 999 0 0 0 0 -1 0 0");
        Check.due("boatAt(2, 0)", x.boatAt(2, 0), 4);
        Check.due("addBoat(3, 3, 1, 1) over a sunk boat", x.addBoat(3, 3, 1, 1), 5);
        Check.unchanged("addBoat(0, 0, 1, 1) upon a boat", x, () -> x.addBoat(0, 0, 1, 1), -3);
        for (int[] c : NO_CELLS) {
            Check.noElement("addBoat(" + c[0] + ", " + c[1] + ", 0, 0)", x, () -> x.addBoat(c[0], c[1], 0, 0));
        }
        for (int[] a : new int[][] {{0, 1}, {100, 1}, {1, 0}, {1, 1000}, {Integer.MIN_VALUE, 1}, {1, Integer.MAX_VALUE}}) {
            Check.badArgument("addBoat(0, 0, " + a[0] + ", " + a[1] + ")", x, () -> x.addBoat(0, 0, a[0], a[1]));
        }
        for (int b = 6; b < 12; b++) {
            Check.due("addBoat no " + b, x.addBoat(b % 5, 1, 1, 1), b < 11 ? b : -3);
        }
        Check.due("addBoat no 11", x.addBoat(2, 3, 1, 1), 11);
        Check.unchanged("addBoat no 12", x, () -> x.addBoat(1, 3, 1, 1), -2);
        Check.unchanged("addBoat no 12 upon a boat", x, () -> x.addBoat(0, 0, 1, 1), -2);
        Check.badArgument("addBoat no 12 of weight 0", x, () -> x.addBoat(0, 0, 0, 1));
        x.undo();
        Check.due("size(4) after undo", x.size(4), 11);
        Check.due("boatAt(2, 3) after undo", x.boatAt(2, 3), -1);
        Check.load(x, "bath 5 4;boat 1 1 1 9;boat 2 1 1 9 wet 7;");
        Check.load(x, "bath 5 4;boat 1 1 1 9;");
        x.addBoat(4, 1, 2, 3);
        Check.due("boat 1 where an earlier text had a wet one", Check.boat(x, 1), "4 1 2 3 0 0 0 0 -1 0 0");
    }

    private static void carry() {
        Check.part("promise 32, carry");
        BathBoats x = start();
        x.blow(0, 30, -40);
        Check.due("carry(0, 4, 1)", x.carry(0, 4, 1), 0);
        Check.due("boat 0", Check.boat(x, 0), "4 1 10 20 4 0 0 0 -1 0 0");
        Check.due("boatAt(0, 0)", x.boatAt(0, 0), -1);
        Check.due("boatAt(4, 1)", x.boatAt(4, 1), 0);
        x.blow(0, 30, -40);
        Check.due("carry(0, 4, 1) to its own cell", x.carry(0, 4, 1), 9);
        Check.due("boat 0", Check.boat(x, 0), "4 1 10 20 4 0 0 0 -1 0 0");
        Check.due("boatAt(4, 1)", x.boatAt(4, 1), 0);
        Check.due("undoCount()", x.undoCount(), 5);
        Check.due("carry(0, 3, 3) over a sunk boat", x.carry(0, 3, 3), 9);
        Check.unchanged("carry(0, 1, 2) upon a boat", x, () -> x.carry(0, 1, 2), -3);
        Check.unchanged("carry(2, 0, 0) of a sunk boat", x, () -> x.carry(2, 0, 0), -2);
        Check.unchanged("carry(2, 1, 2) of a sunk boat upon a boat", x, () -> x.carry(2, 1, 2), -2);
        for (int[] c : NO_CELLS) {
            Check.noElement("carry(2, " + c[0] + ", " + c[1] + ")", x, () -> x.carry(2, c[0], c[1]));
        }
        for (int b : NO_BOATS) {
            Check.noElement("carry(" + b + ", 0, 0)", x, () -> x.carry(b, 0, 0));
        }
    }

    private static void blow() {
        Check.part("promise 34, blow");
        BathBoats x = start();
        Check.due("blow(0, 300, -300)", x.blow(0, 300, -300), 600);
        Check.due("blow(0, 1, -1) at the limit", x.blow(0, 1, -1), 600);
        Check.due("boat(0, 5)", x.boat(0, 5), 300);
        Check.due("boat(0, 6)", x.boat(0, 6), -300);
        Check.due("blow(0, -290, 310 - 10)", x.blow(0, -290, 300), 10);
        Check.due("blow(0, -40, 7)", x.blow(0, -40, 7), 37);
        Check.due("boat(0, 5)", x.boat(0, 5), -30);
        Check.due("boat(0, 6)", x.boat(0, 6), 7);
        Check.due("blow(0, 0, 0)", x.blow(0, 0, 0), 37);
        Check.due("undoCount()", x.undoCount(), 6);
        Check.due("blow(0, -300, 300)", x.blow(0, -300, 300), 600);
        Check.unchanged("blow(2, 1, 1) of a sunk boat", x, () -> x.blow(2, 1, 1), -2);
        for (int b : NO_BOATS) {
            Check.noElement("blow(" + b + ", 301, 0)", x, () -> x.blow(b, 301, 0));
        }
        for (int d : new int[] {-301, 301, Integer.MAX_VALUE, Integer.MIN_VALUE}) {
            Check.badArgument("blow(0, " + d + ", 0)", x, () -> x.blow(0, d, 0));
            Check.badArgument("blow(2, 0, " + d + ")", x, () -> x.blow(2, 0, d));
        }
    }

    private static void dry() {
        Check.part("promise 35, dry");
        BathBoats x = start();
        Check.due("dry(0)", x.dry(0), 4);
        Check.due("boat(0, 4)", x.boat(0, 4), 0);
        Check.due("dry(0) again", x.dry(0), 0);
        Check.due("undoCount()", x.undoCount(), 3);
        Check.unchanged("dry(2) of a sunk boat", x, () -> x.dry(2), -2);
        for (int b : NO_BOATS) {
            Check.noElement("dry(" + b + ")", x, () -> x.dry(b));
        }
    }

    private static void setDrain() {
        Check.part("promise 36, setDrain");
        BathBoats x = start();
        Check.due("setDrain(0, 99)", x.setDrain(0, 99), 10);
        Check.due("drain(0, 3)", x.drain(0, 3), 99);
        Check.due("setDrain(0, 0)", x.setDrain(0, 0), 99);
        Check.due("setDrain(1, 1)", x.setDrain(1, 1), 0);
        Check.due("drain(1, 4)", x.drain(1, 4), 1);
        Check.due("setDrain(1, 1) again", x.setDrain(1, 1), 1);
        Check.due("undoCount()", x.undoCount(), 5);
        for (int d : new int[] {-1, 2, Integer.MAX_VALUE}) {
            Check.noElement("setDrain(" + d + ", 100)", x, () -> x.setDrain(d, 100));
        }
        for (int r : new int[] {-1, 100, Integer.MIN_VALUE}) {
            Check.badArgument("setDrain(0, " + r + ")", x, () -> x.setDrain(0, r));
        }
    }

    private static void setTap() {
        Check.part("promise 37, setTap");
        BathBoats x = start();
        Check.due("setTap(0, 99)", x.setTap(0, 99), 7);
        Check.due("tap(0, 2)", x.tap(0, 2), 99);
        Check.due("setTap(0, 0)", x.setTap(0, 0), 99);
        Check.due("undoCount()", x.undoCount(), 3);
        for (int t : new int[] {-1, 1, Integer.MAX_VALUE}) {
            Check.noElement("setTap(" + t + ", 100)", x, () -> x.setTap(t, 100));
        }
        for (int r : new int[] {-1, 100, Integer.MIN_VALUE}) {
            Check.badArgument("setTap(0, " + r + ")", x, () -> x.setTap(0, r));
        }
    }

    private static void dropSoap() {
        Check.part("promise 38, dropSoap");
        BathBoats x = Check.bath(START);
        Check.due("dropSoap(4, 0, 1)", x.dropSoap(4, 0, 1), 99);
        Check.due("dropSoap(4, 0, 1) again", x.dropSoap(4, 0, 1), 99);
        Check.due("dropSoap(1, 2, 99)", x.dropSoap(1, 2, 99), 99);
        Check.due("dropSoap(0, 3, 5)", x.dropSoap(0, 3, 5), 5);
        Check.due("soap(0, 3)", x.soap(0, 3), 5);
        Check.due("soap(3, 0)", x.soap(3, 0), 0);
        Check.due("undoCount()", x.undoCount(), 4);
        for (int[] c : NO_CELLS) {
            Check.noElement("dropSoap(" + c[0] + ", " + c[1] + ", 0)", x, () -> x.dropSoap(c[0], c[1], 0));
        }
        for (int a : new int[] {0, -1, 100, Integer.MAX_VALUE}) {
            Check.badArgument("dropSoap(0, 0, " + a + ")", x, () -> x.dropSoap(0, 0, a));
        }
    }

    private static void wipe() {
        Check.part("promise 39, wipe");
        BathBoats x = Check.bath(START);
        Check.due("wipe(4, 0)", x.wipe(4, 0), 98);
        Check.due("soap(4, 0)", x.soap(4, 0), 0);
        Check.due("soap(1, 2)", x.soap(1, 2), 25);
        Check.due("wipe(4, 0) again", x.wipe(4, 0), 0);
        Check.due("undoCount()", x.undoCount(), 2);
        for (int[] c : NO_CELLS) {
            Check.noElement("wipe(" + c[0] + ", " + c[1] + ")", x, () -> x.wipe(c[0], c[1]));
        }
    }

    private static void setPush() {
        Check.part("promise 40, setPush");
        BathBoats x = Check.bath(START);
        Check.due("setPush(9)", x.setPush(9), 2);
        Check.due("setPush(0)", x.setPush(0), 9);
        Check.due("size(10)", x.size(10), 0);
        Check.due("undoCount()", x.undoCount(), 2);
        for (int p : new int[] {-1, 10, Integer.MAX_VALUE}) {
            Check.badArgument("setPush(" + p + ")", x, () -> x.setPush(p));
        }
    }

    private static void setWind() {
        Check.part("promise 41, setWind");
        BathBoats x = Check.bath(START);
        Check.due("setWind(-99, 99)", x.setWind(-99, 99), 7);
        Check.due("setWind(99, -99)", x.setWind(99, -99), 198);
        Check.due("size(13)", x.size(13), 99);
        Check.due("size(14)", x.size(14), -99);
        Check.due("undoCount()", x.undoCount(), 2);
        for (int w : new int[] {-100, 100, Integer.MIN_VALUE}) {
            Check.badArgument("setWind(" + w + ", 0)", x, () -> x.setWind(w, 0));
            Check.badArgument("setWind(0, " + w + ")", x, () -> x.setWind(0, w));
        }
    }

    private static void setLevel() {
        Check.part("promise 42, setLevel");
        BathBoats x = Check.bath(START);
        Check.due("setLevel(1000)", x.setLevel(1000), 0);
        Check.due("setLevel(0)", x.setLevel(0), 1000);
        Check.due("size(9)", x.size(9), 0);
        Check.due("undoCount()", x.undoCount(), 2);
        for (int l : new int[] {-1, 1001, Integer.MIN_VALUE}) {
            Check.badArgument("setLevel(" + l + ")", x, () -> x.setLevel(l));
        }
    }

    private static void undo() {
        Check.part("promises 46 and 47, undoCount and undo");
        BathBoats x = new BathBoats();
        Check.due("undo() of nothing", x.undo(), -1);
        for (int i = 1; i <= 13; i++) {
            x.setLevel(i);
            Check.due("undoCount()", x.undoCount(), Math.min(i, 10));
        }
        for (int i = 12; i >= 3; i--) {
            Check.due("undo()", x.undo(), i - 3);
            Check.due("size(9)", x.size(9), i);
            Check.due("undoCount()", x.undoCount(), i - 3);
        }
        Check.due("undo() of no more", x.undo(), -1);
        Check.due("size(9)", x.size(9), 3);
        x.setLevel(7);
        x.setLevel(8);
        Check.due("undo()", x.undo(), 1);
        x.setLevel(9);
        Check.due("undo()", x.undo(), 1);
        Check.due("size(9)", x.size(9), 7);
        Check.due("undo()", x.undo(), 0);
        Check.due("size(9)", x.size(9), 3);
    }

    private static void undoOfAll() {
        Check.part("promise 47, undo of every operation");
        BathBoats x = start();
        x.undo();
        String operations = "";
        List<String> states = new ArrayList<>();
        for (int i = 0; i < 10; i++) {
            states.add(Check.state(x));
            operate(x, i);
            operations += Check.state(x).equals(states.get(i)) ? i + " " : "";
        }
        Check.due("operations that change nothing", operations, "");
        x.format(0);
        Check.feed(x, "many x < 9          ");
        for (int i = 9; i >= 0; i--) {
            Check.due("undo()", x.undo(), i);
            Check.due("the state after undo of " + i, Check.state(x), states.get(i));
        }
        Check.due("the buffer after undo", x.query(10), 4);
        for (int i = 10; i < 13; i++) {
            String state = Check.state(x);
            operate(x, i);
            Check.due("operation " + i + " changes", Check.state(x).equals(state), false);
            x.undo();
            Check.due("the state after undo of " + i, Check.state(x), state);
        }
    }

    private static void operate(BathBoats x, int operation) {
        switch (operation) {
            case 0: x.setLevel(500); break;
            case 1: x.addBoat(2, 2, 9, 9); break;
            case 2: x.carry(0, 4, 0); break;
            case 3: x.blow(1, 100, 90); break;
            case 4: x.turn(4); break;
            case 5: x.dry(1); break;
            case 6: x.setDrain(0, 77); break;
            case 7: x.setTap(0, 66); break;
            case 8: x.dropSoap(0, 1, 44); break;
            case 9: x.pull(1, 0, 0, 999); break;
            case 10: x.wipe(1, 2); break;
            case 11: x.setPush(9); break;
            default: x.setWind(9, 9); break;
        }
    }

    private static void orderOfEnds() {
        BathBoats x = Check.bath("bath 5 5 level 0;boat 0 0 1 1;boat 1 1 1 2;");
        x.turn(2);
        x.saveSnapshot();
        Check.due("ended(0, 0)", x.ended(0, 0), 0);
        x.undo();
        Check.noElement("ended(0, 0) after undo", x, () -> x.ended(0, 0));
        x.dropSoap(1, 1, 50);
        x.turn(1);
        Check.due("ended(0, 0) in soap", x.ended(0, 0), 1);
        x.restoreSnapshot();
        Check.due("ended(0, 0) after restoreSnapshot", x.ended(0, 0), 0);
        Check.noElement("ended(1, 0) after restoreSnapshot", x, () -> x.ended(1, 0));
    }

    private static void snapshot() {
        Check.part("promises 48 and 49, saveSnapshot and restoreSnapshot");
        BathBoats x = start();
        Check.due("restoreSnapshot() of none", x.restoreSnapshot(), false);
        Check.due("undoCount()", x.undoCount(), 1);
        String first = Check.state(x);
        x.saveSnapshot();
        Check.due("undoCount() after saveSnapshot", x.undoCount(), 1);
        for (int i = 0; i < 10; i++) {
            operate(x, i);
        }
        Check.due("restoreSnapshot()", x.restoreSnapshot(), true);
        Check.due("the state", Check.state(x), first);
        Check.due("undoCount()", x.undoCount(), 0);
        Check.due("undo()", x.undo(), -1);
        operate(x, 4);
        x.undo();
        operate(x, 0);
        Check.due("restoreSnapshot() again", x.restoreSnapshot(), true);
        Check.due("the state again", Check.state(x), first);
        operate(x, 8);
        String second = Check.state(x);
        x.saveSnapshot();
        x.undo();
        Check.due("restoreSnapshot() of the second", x.restoreSnapshot(), true);
        Check.due("the second state", Check.state(x), second);
        orderOfEnds();
        Check.load(x, "bath 5 5;x");
        Check.due("restoreSnapshot() after a load with an error", x.restoreSnapshot(), true);
        Check.load(x, "bath 5 5;");
        Check.due("restoreSnapshot() after a load", x.restoreSnapshot(), false);
        Check.due("W", x.size(1), 5);
    }
}
