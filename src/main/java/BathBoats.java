import java.util.NoSuchElementException;

/** A simulation of paper boats on a bath, turn by turn. */
public final class BathBoats {
    public static final int NONE = -1;
    public static final int HIDDEN = -1000000000;

    private static final int MAX_SIDE = 10;
    private static final int MAX_CELLS = MAX_SIDE * MAX_SIDE;
    private static final int MAX_BOATS = 12;
    private static final int MAX_SOURCES = 5;
    private static final int MAX_SOAP = 99;
    private static final int MAX_LEVEL = 1000;
    private static final int MAX_DRIFT = 300;
    private static final int MAX_BYTES = 700;
    private static final int MAX_QUERY = 200;
    private static final int MAX_UNDO = 10;
    private static final int MAX_FORECAST = 300;
    private static final int LIFE = 40;

    private final Bath bath = new Bath();
    private final Bath trial = new Bath();
    private final Bath snapshot = new Bath();
    private final History history = new History();
    private final Physics physics = new Physics();
    private final Towing towing = new Towing();
    private final Tokens tokens = new Tokens();
    private final BathReader bathReader = new BathReader(tokens);
    private final QueryReader queryReader = new QueryReader(tokens, bath);
    private final Row formatted = new Row(MAX_SIDE, NONE);
    private int formattedLength;
    private int errorAt = NONE;
    private boolean hasSnapshot;

    public BathBoats() {
        bath.begin(5, 5);
    }

    // ---- text ----

    public int feed(int a, int b, int c, int d, int e) {
        if (tokens.fed + 20 > MAX_BYTES) {
            return NONE;
        }
        tokens.append(a);
        tokens.append(b);
        tokens.append(c);
        tokens.append(d);
        tokens.append(e);
        return tokens.fed;
    }

    public int load(int length) throws IllegalArgumentException {
        requireArgument(length, 0, tokens.fed);
        tokens.open(length);
        bathReader.read();
        tokens.fed = 0;
        errorAt = tokens.errorAt;
        if (tokens.error != 0) {
            return -10 - tokens.error;
        }
        bath.copyFrom(bathReader.bath);
        history.clear();
        hasSnapshot = false;
        return bath.boatCount;
    }

    public int errorPosition() {
        return errorAt;
    }

    public int query(int length) throws IllegalArgumentException {
        requireArgument(length, 0, Math.min(MAX_QUERY, tokens.fed));
        tokens.open(length);
        int answer = queryReader.evaluate();
        tokens.fed = 0;
        errorAt = tokens.errorAt;
        return tokens.error == 0 ? answer : HIDDEN - tokens.error;
    }

    // ---- what is ----

    public int size(int what) throws NoSuchElementException {
        switch (what) {
            case 0: return bath.width;
            case 1: return bath.height;
            case 2: return bath.drainCount;
            case 3: return bath.tapCount;
            case 4: return bath.boatCount;
            case 5: return bath.countBoats(Bath.AFLOAT);
            case 6: return bath.countBoats(Bath.SUNK);
            case 7: return bath.countBoats(Bath.DRAINED);
            case 8: return bath.time;
            case 9: return bath.level;
            case 10: return bath.push;
            case 11: return bath.countWorkingDrains();
            case 12: return bath.countSoap();
            case 13: return bath.windX;
            case 14: return bath.windY;
            default: throw new NoSuchElementException("no such number of the bath");
        }
    }

    public int boat(int boat, int what) throws NoSuchElementException {
        requireBoat(boat);
        requireElement(what, Bath.BOAT_NUMBERS);
        return bath.boats.get(boat, what);
    }

    public int drain(int drain, int what) throws NoSuchElementException {
        requireElement(drain, bath.drainCount);
        requireElement(what, Bath.DRAIN_NUMBERS);
        if (what == Bath.WORKS) {
            return bath.drainWorks(drain) ? 1 : 0;
        }
        return bath.drains.get(drain, what);
    }

    public int tap(int tap, int what) throws NoSuchElementException {
        requireElement(tap, bath.tapCount);
        requireElement(what, Bath.TAP_NUMBERS);
        return bath.taps.get(tap, what);
    }

    public int soap(int x, int y) throws NoSuchElementException {
        requireCell(x, y);
        return bath.soaps.get(bath.cellAt(x, y));
    }

    public int boatAt(int x, int y) throws NoSuchElementException {
        requireCell(x, y);
        return bath.occupants.get(bath.cellAt(x, y));
    }

    public int afloat(int i) throws NoSuchElementException {
        requireElement(i, bath.countBoats(Bath.AFLOAT));
        int before = 0;
        for (int b = 0; b < bath.boatCount; b++) {
            if (bath.isAfloat(b)) {
                if (before == i) {
                    return b;
                }
                before++;
            }
        }
        return NONE;
    }

    public int ended(int i, int what) throws NoSuchElementException {
        requireElement(i, bath.endedCount);
        int boat = bath.endedBoats.get(i);
        switch (what) {
            case 0: return boat;
            case 1: return bath.boats.get(boat, Bath.END_TIME);
            case 2: return bath.boats.get(boat, Bath.STATE);
            case 3: return bath.cellOf(boat);
            default: throw new NoSuchElementException("no such number of an ended boat");
        }
    }

    public float flow(int x, int y, boolean across) throws NoSuchElementException {
        requireCell(x, y);
        physics.flow.measure(bath, x, y);
        return across ? physics.flow.x : physics.flow.y;
    }

    public int pushOn(int boat, boolean across) throws NoSuchElementException {
        requireBoat(boat);
        if (!bath.isAfloat(boat) || bath.level == 0) {
            return 0;
        }
        physics.flow.measure(bath, bath.boats.get(boat, Bath.X), bath.boats.get(boat, Bath.Y));
        return physics.growth(bath, boat, across ? Physics.ACROSS : Physics.DOWN);
    }

    public int strongest() {
        int best = NONE;
        float greatest = 0;
        for (int y = 0; y < bath.height; y++) {
            for (int x = 0; x < bath.width; x++) {
                float force = physics.flow.forceIn(bath, x, y);
                if (best == NONE || force > greatest) {
                    best = bath.cellAt(x, y);
                    greatest = force;
                }
            }
        }
        return best;
    }

    public int calm(int x, int y, int limit) throws NoSuchElementException, IllegalArgumentException {
        requireCell(x, y);
        requireArgument(limit, 0, 9999);
        return physics.flow.countCalmArea(bath, bath.cellAt(x, y), limit);
    }

    public int nearest(int drain) throws NoSuchElementException {
        requireElement(drain, bath.drainCount);
        int best = NONE;
        int least = 0;
        for (int b = 0; b < bath.boatCount; b++) {
            int distance = Math.abs(bath.boats.get(b, Bath.X) - bath.drains.get(drain, Bath.X))
                    + Math.abs(bath.boats.get(b, Bath.Y) - bath.drains.get(drain, Bath.Y));
            if (bath.isAfloat(b) && (best == NONE || distance < least)) {
                best = b;
                least = distance;
            }
        }
        return best;
    }

    public int softest() {
        int best = NONE;
        for (int b = 0; b < bath.boatCount; b++) {
            if (bath.isAfloat(b) && (best == NONE || bath.reserve(b) < bath.reserve(best))) {
                best = b;
            }
        }
        return best;
    }

    public int driesOut(int boat) throws NoSuchElementException {
        requireBoat(boat);
        return bath.isAfloat(boat) ? bath.reserve(boat) + 1 : NONE;
    }

    public double softness() {
        int wetness = 0;
        int strength = 0;
        for (int b = 0; b < bath.boatCount; b++) {
            if (bath.isAfloat(b)) {
                wetness += bath.boats.get(b, Bath.WETNESS);
                strength += bath.boats.get(b, Bath.STRENGTH);
            }
        }
        return strength == 0 ? 0 : (double) wetness / (double) strength;
    }

    public float afloatShare() {
        if (bath.boatCount == 0) {
            return 0;
        }
        return (float) bath.countBoats(Bath.AFLOAT) / (float) bath.boatCount;
    }

    public int format(int y) throws NoSuchElementException {
        requireElement(y, bath.height);
        for (int x = 0; x < bath.width; x++) {
            formatted.put(x, letterOf(bath.cellAt(x, y)));
        }
        formattedLength = bath.width;
        return formattedLength;
    }

    public int formattedByte(int index) {
        return index >= 0 && index < formattedLength ? formatted.get(index) : NONE;
    }

    // ---- towing ----

    public int tow(int boat, int x, int y) throws NoSuchElementException {
        requireBoat(boat);
        requireCell(x, y);
        if (!bath.isAfloat(boat)) {
            return NONE;
        }
        towing.measure(bath, boat, bath.cellAt(x, y));
        return towing.distanceFrom(bath.cellOf(boat));
    }

    public int towStep(int boat, int x, int y) throws NoSuchElementException {
        requireBoat(boat);
        requireCell(x, y);
        int target = bath.cellAt(x, y);
        if (!bath.isAfloat(boat) || bath.cellOf(boat) == target) {
            return NONE;
        }
        towing.measure(bath, boat, target);
        return towing.stepFrom(bath, bath.cellOf(boat));
    }

    public int pull(int boat, int x, int y, int budget) throws NoSuchElementException, IllegalArgumentException {
        requireBoat(boat);
        requireCell(x, y);
        requireArgument(budget, 0, 9999);
        if (!bath.isAfloat(boat)) {
            return -2;
        }
        int target = bath.cellAt(x, y);
        int cell = bath.cellOf(boat);
        towing.measure(bath, boat, target);
        if (towing.distanceFrom(cell) == NONE) {
            return -3;
        }
        history.record(bath);
        int spent = 0;
        // a shortest way enters no cell twice
        for (int steps = 0; steps < MAX_CELLS && cell != target; steps++) {
            int next = towing.stepFrom(bath, cell);
            int cost = towing.costs.get(next);
            if (spent + cost > budget) {
                break;
            }
            spent += cost;
            cell = next;
        }
        bath.place(boat, bath.columnOf(cell), bath.rowOf(cell));
        bath.stopDrift(boat);
        return spent;
    }

    // ---- forecasts ----

    public int endsIn(int boat) throws NoSuchElementException {
        requireBoat(boat);
        trial.copyFrom(bath);
        for (int turns = 0; turns < MAX_FORECAST && trial.isAfloat(boat); turns++) {
            physics.passTurn(trial);
        }
        return trial.isAfloat(boat) ? NONE : trial.time - bath.time;
    }

    public int emptyIn() {
        trial.copyFrom(bath);
        for (int turns = 0; turns < MAX_FORECAST && trial.level > 0; turns++) {
            physics.passTurn(trial);
        }
        return trial.level > 0 ? NONE : trial.time - bath.time;
    }

    public int boatIn(int boat, int what, int turns) throws NoSuchElementException, IllegalArgumentException {
        requireBoat(boat);
        requireElement(what, Bath.BOAT_NUMBERS);
        requireArgument(turns, 0, MAX_FORECAST);
        trial.copyFrom(bath);
        passTurns(trial, turns);
        return trial.boats.get(boat, what);
    }

    public int afloatIn(int turns) throws IllegalArgumentException {
        requireArgument(turns, 0, MAX_FORECAST);
        trial.copyFrom(bath);
        passTurns(trial, turns);
        return trial.countBoats(Bath.AFLOAT);
    }

    public int rescue(int boat, int amount) throws NoSuchElementException, IllegalArgumentException {
        requireBoat(boat);
        requireArgument(amount, 1, MAX_SOAP);
        if (!bath.isAfloat(boat)) {
            return NONE;
        }
        trial.copyFrom(bath);
        int longest = lifeInTrial(boat);
        int best = NONE;
        // no life is longer than LIFE, so there the search may end
        for (int cell = 0; cell < bath.cellCount() && longest < LIFE; cell++) {
            trial.copyFrom(bath);
            trial.addSoap(cell, amount);
            int life = lifeInTrial(boat);
            if (life > longest) {
                longest = life;
                best = cell;
            }
        }
        return best;
    }

    public int refuge(int boat) throws NoSuchElementException {
        requireBoat(boat);
        if (!bath.isAfloat(boat)) {
            return NONE;
        }
        trial.copyFrom(bath);
        int longest = lifeInTrial(boat);
        int best = NONE;
        // no life is longer than LIFE, so there the search may end
        for (int cell = 0; cell < bath.cellCount() && longest < LIFE; cell++) {
            if (bath.hasOtherBoat(cell, boat)) {
                continue;
            }
            trial.copyFrom(bath);
            trial.place(boat, trial.columnOf(cell), trial.rowOf(cell));
            trial.stopDrift(boat);
            int life = lifeInTrial(boat);
            if (life > longest) {
                longest = life;
                best = cell;
            }
        }
        return best;
    }

    public int plug() {
        trial.copyFrom(bath);
        passTurns(trial, LIFE);
        int most = trial.countBoats(Bath.AFLOAT);
        int best = NONE;
        for (int drain = 0; drain < bath.drainCount; drain++) {
            trial.copyFrom(bath);
            trial.drains.put(drain, Bath.RATE, 0);
            passTurns(trial, LIFE);
            int count = trial.countBoats(Bath.AFLOAT);
            if (count > most) {
                most = count;
                best = drain;
            }
        }
        return best;
    }

    // ---- operations ----

    public int addBoat(int x, int y, int weight, int strength)
            throws NoSuchElementException, IllegalArgumentException {
        requireCell(x, y);
        requireArgument(weight, 1, 99);
        requireArgument(strength, 1, 999);
        if (bath.boatCount >= MAX_BOATS) {
            return -2;
        }
        if (bath.occupants.get(bath.cellAt(x, y)) != NONE) {
            return -3;
        }
        history.record(bath);
        bath.launch(x, y, weight, strength);
        return bath.boatCount - 1;
    }

    public int carry(int boat, int x, int y) throws NoSuchElementException {
        requireBoat(boat);
        requireCell(x, y);
        if (!bath.isAfloat(boat)) {
            return -2;
        }
        if (bath.hasOtherBoat(bath.cellAt(x, y), boat)) {
            return -3;
        }
        history.record(bath);
        int from = bath.cellOf(boat);
        bath.place(boat, x, y);
        bath.stopDrift(boat);
        return from;
    }

    public int blow(int boat, int dx, int dy) throws NoSuchElementException, IllegalArgumentException {
        requireBoat(boat);
        requireArgument(dx, -MAX_DRIFT, MAX_DRIFT);
        requireArgument(dy, -MAX_DRIFT, MAX_DRIFT);
        if (!bath.isAfloat(boat)) {
            return -2;
        }
        history.record(bath);
        bath.addDrift(boat, Bath.DRIFT_X, dx);
        bath.addDrift(boat, Bath.DRIFT_Y, dy);
        return Math.abs(bath.boats.get(boat, Bath.DRIFT_X)) + Math.abs(bath.boats.get(boat, Bath.DRIFT_Y));
    }

    public int dry(int boat) throws NoSuchElementException {
        requireBoat(boat);
        if (!bath.isAfloat(boat)) {
            return -2;
        }
        history.record(bath);
        int before = bath.boats.get(boat, Bath.WETNESS);
        bath.boats.put(boat, Bath.WETNESS, 0);
        return before;
    }

    public int setDrain(int drain, int rate) throws NoSuchElementException, IllegalArgumentException {
        requireElement(drain, bath.drainCount);
        requireArgument(rate, 0, 99);
        history.record(bath);
        int before = bath.drains.get(drain, Bath.RATE);
        bath.drains.put(drain, Bath.RATE, rate);
        return before;
    }

    public int setTap(int tap, int rate) throws NoSuchElementException, IllegalArgumentException {
        requireElement(tap, bath.tapCount);
        requireArgument(rate, 0, 99);
        history.record(bath);
        int before = bath.taps.get(tap, Bath.TAP_RATE);
        bath.taps.put(tap, Bath.TAP_RATE, rate);
        return before;
    }

    public int dropSoap(int x, int y, int amount) throws NoSuchElementException, IllegalArgumentException {
        requireCell(x, y);
        requireArgument(amount, 1, MAX_SOAP);
        history.record(bath);
        int cell = bath.cellAt(x, y);
        bath.addSoap(cell, amount);
        return bath.soaps.get(cell);
    }

    public int wipe(int x, int y) throws NoSuchElementException {
        requireCell(x, y);
        history.record(bath);
        int cell = bath.cellAt(x, y);
        int before = bath.soaps.get(cell);
        bath.soaps.put(cell, 0);
        return before;
    }

    public int setPush(int push) throws IllegalArgumentException {
        requireArgument(push, 0, 9);
        history.record(bath);
        int before = bath.push;
        bath.push = push;
        return before;
    }

    public int setWind(int x, int y) throws IllegalArgumentException {
        requireArgument(x, -99, 99);
        requireArgument(y, -99, 99);
        history.record(bath);
        int before = Math.abs(bath.windX) + Math.abs(bath.windY);
        bath.windX = x;
        bath.windY = y;
        return before;
    }

    public int setLevel(int level) throws IllegalArgumentException {
        requireArgument(level, 0, MAX_LEVEL);
        history.record(bath);
        int before = bath.level;
        bath.level = level;
        return before;
    }

    public int turn(int turns) throws IllegalArgumentException {
        requireArgument(turns, 1, 200);
        history.record(bath);
        int before = bath.endedCount;
        passTurns(bath, turns);
        return bath.endedCount - before;
    }

    // ---- undo and snapshot ----

    public int undoCount() {
        return history.count;
    }

    public int undo() {
        return history.takeBack(bath) ? history.count : NONE;
    }

    public void saveSnapshot() {
        snapshot.copyFrom(bath);
        hasSnapshot = true;
    }

    public boolean restoreSnapshot() {
        if (!hasSnapshot) {
            return false;
        }
        bath.copyFrom(snapshot);
        history.clear();
        return true;
    }

    // ---- helpers ----

    private void requireBoat(int boat) throws NoSuchElementException {
        if (boat < 0 || boat >= bath.boatCount) {
            throw new NoSuchElementException("no such boat");
        }
    }

    private void requireCell(int x, int y) throws NoSuchElementException {
        if (bath.cellAt(x, y) == NONE) {
            throw new NoSuchElementException("no such cell");
        }
    }

    private static void requireElement(int i, int count) throws NoSuchElementException {
        if (i < 0 || i >= count) {
            throw new NoSuchElementException("there are not so many");
        }
    }

    private static void requireArgument(int number, int least, int most) throws IllegalArgumentException {
        if (number < least || number > most) {
            throw new IllegalArgumentException("out of range");
        }
    }

    private void passTurns(Bath passing, int turns) {
        for (int t = 0; t < turns; t++) {
            physics.passTurn(passing);
        }
    }

    /** After how many of the next turns a boat is still afloat; the trial bath goes on until then. */
    private int lifeInTrial(int boat) {
        for (int turns = 0; turns < LIFE; turns++) {
            physics.passTurn(trial);
            if (!trial.isAfloat(boat)) {
                return turns;
            }
        }
        return LIFE;
    }

    private int letterOf(int cell) {
        int boat = bath.occupants.get(cell);
        if (boat != NONE) {
            return 'a' + boat;
        }
        int drain = bath.drainIn(cell);
        if (drain != NONE) {
            return bath.drainWorks(drain) ? 'O' : 'o';
        }
        if (bath.tapIn(cell) != NONE) {
            return '+';
        }
        return bath.soaps.get(cell) > 0 ? '*' : '.';
    }

    /** A row of ints. An index outside it reads one same number and writes nothing, so no access fails. */
    private static final class Row {
        private final int[] numbers;
        private final int outside;

        Row(int length, int outside) {
            this.numbers = new int[Math.max(length, 0)];
            this.outside = outside;
        }

        int get(int i) {
            return i >= 0 && i < numbers.length ? numbers[i] : outside;
        }

        void put(int i, int number) {
            if (i >= 0 && i < numbers.length) {
                numbers[i] = number;
            }
        }

        void fill(int number) {
            for (int i = 0; i < numbers.length; i++) {
                numbers[i] = number;
            }
        }

        void copyFrom(Row other) {
            System.arraycopy(other.numbers, 0, numbers, 0, Math.min(other.numbers.length, numbers.length));
        }
    }

    /** Rows of ints, all of the same width. A place outside reads 0 and writes nothing, so no access fails. */
    private static final class Table {
        private final int[] numbers;
        private final int width;

        Table(int rows, int width) {
            this.numbers = new int[Math.max(rows * width, 0)];
            this.width = width;
        }

        int get(int row, int column) {
            int i = row * width + column;
            return column >= 0 && column < width && i >= 0 && i < numbers.length ? numbers[i] : 0;
        }

        void put(int row, int column, int number) {
            int i = row * width + column;
            if (column >= 0 && column < width && i >= 0 && i < numbers.length) {
                numbers[i] = number;
            }
        }

        void copyFrom(Table other) {
            System.arraycopy(other.numbers, 0, numbers, 0, Math.min(other.numbers.length, numbers.length));
        }
    }

    /** All that undoing restores. */
    private static final class Bath {
        // the numbers of boats, drains and taps, as the document counts them; x and y are the same for all
        static final int X = 0;
        static final int Y = 1;
        static final int WEIGHT = 2;
        static final int STRENGTH = 3;
        static final int WETNESS = 4;
        static final int DRIFT_X = 5;
        static final int DRIFT_Y = 6;
        static final int STATE = 7;
        static final int END_TIME = 8;
        static final int MOVES = 9;
        static final int HITS = 10;
        static final int BOAT_NUMBERS = 11;

        static final int SIZE = 2;
        static final int RATE = 3;
        static final int WORKS = 4;
        static final int CAUGHT = 5;
        static final int DRAIN_NUMBERS = 6;

        static final int TAP_RATE = 2;
        static final int TAP_NUMBERS = 3;

        static final int AFLOAT = 0;
        static final int SUNK = 1;
        static final int DRAINED = 2;

        private final Table boats = new Table(MAX_BOATS, BOAT_NUMBERS);
        private final Table drains = new Table(MAX_SOURCES, DRAIN_NUMBERS);
        private final Table taps = new Table(MAX_SOURCES, TAP_NUMBERS);
        private final Row soaps = new Row(MAX_CELLS, 0);
        private final Row occupants = new Row(MAX_CELLS, NONE);
        private final Row endedBoats = new Row(MAX_BOATS, NONE);
        private int width;
        private int height;
        private int level;
        private int push;
        private int windX;
        private int windY;
        private int time;
        private int boatCount;
        private int drainCount;
        private int tapCount;
        private int endedCount;

        void begin(int columns, int rows) {
            width = columns;
            height = rows;
            level = 500;
            push = 1;
            windX = 0;
            windY = 0;
            time = 0;
            boatCount = 0;
            drainCount = 0;
            tapCount = 0;
            endedCount = 0;
            soaps.fill(0);
            occupants.fill(NONE);
        }

        void copyFrom(Bath other) {
            boats.copyFrom(other.boats);
            drains.copyFrom(other.drains);
            taps.copyFrom(other.taps);
            soaps.copyFrom(other.soaps);
            occupants.copyFrom(other.occupants);
            endedBoats.copyFrom(other.endedBoats);
            width = other.width;
            height = other.height;
            level = other.level;
            push = other.push;
            windX = other.windX;
            windY = other.windY;
            time = other.time;
            boatCount = other.boatCount;
            drainCount = other.drainCount;
            tapCount = other.tapCount;
            endedCount = other.endedCount;
        }

        int cellCount() {
            return width * height;
        }

        int cellAt(int x, int y) {
            return x >= 0 && x < width && y >= 0 && y < height ? width * y + x : NONE;
        }

        int columnOf(int cell) {
            return width > 0 ? cell % width : 0;
        }

        int rowOf(int cell) {
            return width > 0 ? cell / width : 0;
        }

        int cellOf(int boat) {
            return cellAt(boats.get(boat, X), boats.get(boat, Y));
        }

        boolean isAfloat(int boat) {
            return boats.get(boat, STATE) == AFLOAT;
        }

        boolean hasOtherBoat(int cell, int boat) {
            int occupant = occupants.get(cell);
            return occupant != NONE && occupant != boat;
        }

        int reserve(int boat) {
            return boats.get(boat, STRENGTH) - boats.get(boat, WETNESS);
        }

        boolean drainWorks(int drain) {
            if (drains.get(drain, RATE) <= 0) {
                return false;
            }
            int boat = occupants.get(width * drains.get(drain, Y) + drains.get(drain, X));
            return boat == NONE || boats.get(boat, WEIGHT) <= drains.get(drain, SIZE);
        }

        /** Whether an open drain is in a cell that is not too small for a boat. */
        boolean wouldDrain(int cell, int boat) {
            int drain = drainIn(cell);
            return drain != NONE && drains.get(drain, RATE) > 0
                    && drains.get(drain, SIZE) >= boats.get(boat, WEIGHT);
        }

        int drainIn(int cell) {
            for (int d = 0; d < drainCount; d++) {
                if (width * drains.get(d, Y) + drains.get(d, X) == cell) {
                    return d;
                }
            }
            return NONE;
        }

        int tapIn(int cell) {
            for (int t = 0; t < tapCount; t++) {
                if (width * taps.get(t, Y) + taps.get(t, X) == cell) {
                    return t;
                }
            }
            return NONE;
        }

        int countBoats(int state) {
            int count = 0;
            for (int b = 0; b < boatCount; b++) {
                if (boats.get(b, STATE) == state) {
                    count++;
                }
            }
            return count;
        }

        int countWorkingDrains() {
            int count = 0;
            for (int d = 0; d < drainCount; d++) {
                if (drainWorks(d)) {
                    count++;
                }
            }
            return count;
        }

        int countSoap() {
            int count = 0;
            for (int cell = 0; cell < width * height; cell++) {
                count += soaps.get(cell);
            }
            return count;
        }

        void addSoap(int cell, int amount) {
            soaps.put(cell, Math.min(soaps.get(cell) + amount, MAX_SOAP));
        }

        void addDrain(int x, int y, int size, int rate) {
            drains.put(drainCount, X, x);
            drains.put(drainCount, Y, y);
            drains.put(drainCount, SIZE, size);
            drains.put(drainCount, RATE, rate);
            drains.put(drainCount, CAUGHT, 0);
            drainCount++;
        }

        void addTap(int x, int y, int rate) {
            taps.put(tapCount, X, x);
            taps.put(tapCount, Y, y);
            taps.put(tapCount, TAP_RATE, rate);
            tapCount++;
        }

        void launch(int x, int y, int weight, int strength) {
            for (int what = 0; what < BOAT_NUMBERS; what++) {
                boats.put(boatCount, what, 0);
            }
            boats.put(boatCount, X, x);
            boats.put(boatCount, Y, y);
            boats.put(boatCount, WEIGHT, weight);
            boats.put(boatCount, STRENGTH, strength);
            boats.put(boatCount, END_TIME, NONE);
            occupants.put(cellAt(x, y), boatCount);
            boatCount++;
        }

        void place(int boat, int x, int y) {
            occupants.put(cellAt(boats.get(boat, X), boats.get(boat, Y)), NONE);
            boats.put(boat, X, x);
            boats.put(boat, Y, y);
            occupants.put(cellAt(x, y), boat);
        }

        void stopDrift(int boat) {
            boats.put(boat, DRIFT_X, 0);
            boats.put(boat, DRIFT_Y, 0);
        }

        static int limitDrift(int drift) {
            return Math.max(-MAX_DRIFT, Math.min(drift, MAX_DRIFT));
        }

        void addDrift(int boat, int component, int by) {
            boats.put(boat, component, limitDrift(boats.get(boat, component) + by));
        }

        void endBoat(int boat, int state) {
            boats.put(boat, STATE, state);
            boats.put(boat, END_TIME, time);
            occupants.put(cellOf(boat), NONE);
            endedBoats.put(endedCount, boat);
            endedCount++;
        }
    }

    /** The flow in the cell that was measured last. */
    private static final class Flow {
        private static final int ROUGH = 0;
        private static final int CALM = 1;
        private static final int REACHED = 2;

        private final Row marks = new Row(MAX_CELLS, ROUGH);
        private float x;
        private float y;

        void measure(Bath bath, int column, int row) {
            x = 0;
            y = 0;
            for (int d = 0; d < bath.drainCount; d++) {
                if (bath.drainWorks(d)) {
                    contribute(bath.drains.get(d, Bath.X) - column, bath.drains.get(d, Bath.Y) - row,
                            bath.drains.get(d, Bath.RATE));
                }
            }
            // subtracting a share is the same, to the last bit, as adding the share of the negative rate
            for (int t = 0; t < bath.tapCount; t++) {
                contribute(bath.taps.get(t, Bath.X) - column, bath.taps.get(t, Bath.Y) - row,
                        -bath.taps.get(t, Bath.TAP_RATE));
            }
        }

        private void contribute(int dx, int dy, int rate) {
            int squares = dx * dx + dy * dy;
            if (squares == 0) {
                return;
            }
            float strength = (float) rate / (float) squares;
            float steps = (float) (Math.abs(dx) + Math.abs(dy));
            x += strength * (float) dx / steps;
            y += strength * (float) dy / steps;
        }

        float forceIn(Bath bath, int column, int row) {
            measure(bath, column, row);
            return (x < 0 ? -x : x) + (y < 0 ? -y : y);
        }

        int countCalmArea(Bath bath, int start, int limit) {
            for (int cell = 0; cell < bath.cellCount(); cell++) {
                float force = forceIn(bath, bath.columnOf(cell), bath.rowOf(cell));
                marks.put(cell, force <= (float) limit ? CALM : ROUGH);
            }
            if (marks.get(start) != CALM) {
                return 0;
            }
            marks.put(start, REACHED);
            int reached = 1;
            int more = 1;
            // each round but the last reaches one cell more at least
            for (int round = 0; round < MAX_CELLS && more > 0; round++) {
                more = reachMore(bath);
                reached += more;
            }
            return reached;
        }

        private int reachMore(Bath bath) {
            int more = 0;
            for (int row = 0; row < bath.height; row++) {
                for (int column = 0; column < bath.width; column++) {
                    int cell = bath.cellAt(column, row);
                    if (marks.get(cell) == CALM && isBesideReached(bath, column, row)) {
                        marks.put(cell, REACHED);
                        more++;
                    }
                }
            }
            return more;
        }

        private boolean isBesideReached(Bath bath, int column, int row) {
            return marks.get(bath.cellAt(column, row - 1)) == REACHED
                    || marks.get(bath.cellAt(column - 1, row)) == REACHED
                    || marks.get(bath.cellAt(column + 1, row)) == REACHED
                    || marks.get(bath.cellAt(column, row + 1)) == REACHED;
        }
    }

    /** What happens in a turn. An axis is ACROSS (x) or DOWN (y): what is added to X or DRIFT_X to get Y or DRIFT_Y. */
    private static final class Physics {
        static final int ACROSS = 0;
        static final int DOWN = 1;

        private final Flow flow = new Flow();
        private final Row gains = new Row(MAX_CELLS, 0);

        void passTurn(Bath bath) {
            bath.time++;
            changeLevel(bath);
            if (bath.level > 0) {
                for (int b = 0; b < bath.boatCount; b++) {
                    if (bath.isAfloat(b)) {
                        driftOn(bath, b);
                    }
                }
            }
            for (int b = 0; b < bath.boatCount; b++) {
                if (bath.isAfloat(b)) {
                    soak(bath, b);
                }
            }
            spreadSoap(bath);
        }

        private void changeLevel(Bath bath) {
            int level = bath.level;
            for (int t = 0; t < bath.tapCount; t++) {
                level += bath.taps.get(t, Bath.TAP_RATE);
            }
            for (int d = 0; d < bath.drainCount; d++) {
                if (bath.drainWorks(d)) {
                    level -= bath.drains.get(d, Bath.RATE);
                }
            }
            bath.level = Math.max(0, Math.min(level, MAX_LEVEL));
        }

        private void driftOn(Bath bath, int boat) {
            flow.measure(bath, bath.boats.get(boat, Bath.X), bath.boats.get(boat, Bath.Y));
            int across = growth(bath, boat, ACROSS);
            int down = growth(bath, boat, DOWN);
            bath.addDrift(boat, Bath.DRIFT_X, across);
            bath.addDrift(boat, Bath.DRIFT_Y, down);
            moveOn(bath, boat, ACROSS);
            moveOn(bath, boat, DOWN);
        }

        /** By how much a component of a boat's drift grows, the flow being measured in the boat's cell. */
        int growth(Bath bath, int boat, int axis) {
            int weight = bath.boats.get(boat, Bath.WEIGHT);
            if (weight <= 0) {
                return 0;
            }
            int x = bath.boats.get(boat, Bath.X);
            int y = bath.boats.get(boat, Bath.Y);
            int right = axis == ACROSS ? 1 : 0;
            int below = axis == DOWN ? 1 : 0;
            float component = axis == ACROSS ? flow.x : flow.y;
            int byFlow = (int) (component * (float) bath.level / (float) (10 * weight));
            int bySoap = bath.push * (bath.soaps.get(bath.cellAt(x - right, y - below))
                    - bath.soaps.get(bath.cellAt(x + right, y + below)));
            int byWind = 10 * (axis == ACROSS ? bath.windX : bath.windY) / weight;
            return byFlow + bySoap + byWind;
        }

        private void moveOn(Bath bath, int boat, int axis) {
            int drift = bath.boats.get(boat, Bath.DRIFT_X + axis);
            int step = drift >= 100 ? 1 : drift <= -100 ? -1 : 0;
            if (step == 0) {
                return;
            }
            int x = bath.boats.get(boat, Bath.X) + (axis == ACROSS ? step : 0);
            int y = bath.boats.get(boat, Bath.Y) + (axis == DOWN ? step : 0);
            int next = bath.cellAt(x, y);
            int other = bath.occupants.get(next);
            if (next == NONE) {
                bath.boats.put(boat, Bath.DRIFT_X + axis, 0);
            } else if (other != NONE) {
                collide(bath, boat, other, Bath.DRIFT_X + axis);
            } else {
                bath.place(boat, x, y);
                bath.boats.put(boat, Bath.DRIFT_X + axis, drift - 100 * step);
                bath.boats.put(boat, Bath.MOVES, bath.boats.get(boat, Bath.MOVES) + 1);
            }
        }

        private void collide(Bath bath, int boat, int other, int component) {
            int weight = bath.boats.get(boat, Bath.WEIGHT);
            int weights = weight + bath.boats.get(other, Bath.WEIGHT);
            int thrust = bath.boats.get(boat, component) * weight;
            int growth = weights > 0 ? thrust / weights : 0;
            bath.boats.put(other, component, Bath.limitDrift(bath.boats.get(other, component) + growth));
            bath.boats.put(boat, component, 0);
            bath.boats.put(boat, Bath.HITS, bath.boats.get(boat, Bath.HITS) + 1);
        }

        private void soak(Bath bath, int boat) {
            int cell = bath.cellOf(boat);
            int wetness = bath.boats.get(boat, Bath.WETNESS) + 1 + bath.soaps.get(cell) / 10;
            bath.boats.put(boat, Bath.WETNESS, wetness);
            if (wetness > bath.boats.get(boat, Bath.STRENGTH)) {
                bath.endBoat(boat, Bath.SUNK);
            } else if (bath.wouldDrain(cell, boat)) {
                int drain = bath.drainIn(cell);
                bath.drains.put(drain, Bath.CAUGHT, bath.drains.get(drain, Bath.CAUGHT) + 1);
                bath.endBoat(boat, Bath.DRAINED);
            }
        }

        private void spreadSoap(Bath bath) {
            gains.fill(0);
            for (int y = 0; y < bath.height; y++) {
                for (int x = 0; x < bath.width; x++) {
                    int cell = bath.cellAt(x, y);
                    if (bath.soaps.get(cell) >= 4) {
                        give(cell, bath.cellAt(x, y - 1));
                        give(cell, bath.cellAt(x - 1, y));
                        give(cell, bath.cellAt(x + 1, y));
                        give(cell, bath.cellAt(x, y + 1));
                    }
                }
            }
            for (int cell = 0; cell < bath.cellCount(); cell++) {
                bath.addSoap(cell, gains.get(cell));
            }
        }

        private void give(int cell, int neighbour) {
            if (neighbour != NONE) {
                gains.put(cell, gains.get(cell) - 1);
                gains.put(neighbour, gains.get(neighbour) + 1);
            }
        }
    }

    /** The distances of all cells from the target that was measured last, for one boat. */
    private static final class Towing {
        // far above the cost of any route, and small enough to be added
        private static final int FAR = 1000000;

        private final Row costs = new Row(MAX_CELLS, FAR);
        private final Row distances = new Row(MAX_CELLS, FAR);

        void measure(Bath bath, int boat, int target) {
            int own = bath.cellOf(boat);
            for (int cell = 0; cell < bath.cellCount(); cell++) {
                boolean free = cell == own || !bath.hasOtherBoat(cell, boat) && !bath.wouldDrain(cell, boat);
                costs.put(cell, free ? 1 + bath.soaps.get(cell) : FAR);
                distances.put(cell, FAR);
            }
            distances.put(target, 0);
            boolean shorter = true;
            // a shortest route has fewer steps than there are cells, and each round settles one step more
            for (int round = 0; round < MAX_CELLS && shorter; round++) {
                shorter = shorten(bath);
            }
        }

        private boolean shorten(Bath bath) {
            boolean shorter = false;
            for (int cell = 0; cell < bath.cellCount(); cell++) {
                int distance = through(stepFrom(bath, cell));
                if (distance < distances.get(cell)) {
                    distances.put(cell, distance);
                    shorter = true;
                }
            }
            return shorter;
        }

        private int through(int cell) {
            return costs.get(cell) + distances.get(cell);
        }

        int distanceFrom(int cell) {
            return distances.get(cell) < FAR ? distances.get(cell) : NONE;
        }

        /** The cell beside a cell through which the way to the target is shortest, NONE if there is no way. */
        int stepFrom(Bath bath, int cell) {
            int x = bath.columnOf(cell);
            int y = bath.rowOf(cell);
            // in the order of their numbers, so that the first of several is the smallest
            int best = bath.cellAt(x, y - 1);
            best = nearer(best, bath.cellAt(x - 1, y));
            best = nearer(best, bath.cellAt(x + 1, y));
            best = nearer(best, bath.cellAt(x, y + 1));
            return through(best) < FAR ? best : NONE;
        }

        private int nearer(int first, int second) {
            return through(second) < through(first) ? second : first;
        }
    }

    /** The baths as they were before the most recent operations. */
    private static final class History {
        private final Bath[] kept = new Bath[MAX_UNDO];
        private int next;
        private int count;

        History() {
            for (int i = 0; i < kept.length; i++) {
                kept[i] = new Bath();
            }
        }

        private Bath slot(int i) {
            return i >= 0 && i < kept.length ? kept[i] : null;
        }

        void record(Bath bath) {
            Bath slot = slot(next);
            if (slot == null) {
                return;
            }
            slot.copyFrom(bath);
            next = (next + 1) % MAX_UNDO;
            count = Math.min(count + 1, MAX_UNDO);
        }

        boolean takeBack(Bath bath) {
            int last = (next + MAX_UNDO - 1) % MAX_UNDO;
            Bath slot = slot(last);
            if (count == 0 || slot == null) {
                return false;
            }
            bath.copyFrom(slot);
            next = last;
            count--;
            return true;
        }

        void clear() {
            count = 0;
        }
    }

    /** The buffer, and the tokens of the text in it, one at a time; the first error is kept. */
    private static final class Tokens {
        static final int END = 0;
        static final int WORD = 1;
        static final int NUMBER = 2;
        // any other byte: those that no rule allows need no kind of their own
        static final int SIGN = 3;

        static final int NOT_ALLOWED = 1;
        static final int OUT_OF_RANGE = 2;
        static final int TOO_MANY = 3;
        static final int TAKEN = 4;

        private static final int GREATER_THAN_ALL = 1000000;

        private final Row bytes = new Row(MAX_BYTES, NONE);
        private int fed;
        private int length;
        private int start;
        private int end;
        private int kind;
        private int value;
        private int error;
        private int errorAt;

        void append(int word) {
            for (int shift = 24; shift >= 0; shift -= 8) {
                bytes.put(fed, word >>> shift & 255);
                fed++;
            }
        }

        void open(int textLength) {
            length = textLength;
            end = 0;
            error = 0;
            errorAt = NONE;
            advance();
        }

        void advance() {
            int i = end;
            while (i < length && (bytes.get(i) == ' ' || bytes.get(i) == '\n')) {
                i++;
            }
            start = i;
            if (i >= length) {
                kind = END;
            } else if (isBetween(bytes.get(i), 'a', 'z')) {
                kind = WORD;
                while (i < length && isBetween(bytes.get(i), 'a', 'z')) {
                    i++;
                }
            } else if (isBetween(bytes.get(i), '0', '9')) {
                kind = NUMBER;
                value = 0;
                while (i < length && isBetween(bytes.get(i), '0', '9')) {
                    value = Math.min(10 * value + bytes.get(i) - '0', GREATER_THAN_ALL);
                    i++;
                }
            } else {
                kind = SIGN;
                value = bytes.get(i);
                i++;
            }
            end = i;
        }

        private static boolean isBetween(int number, int least, int most) {
            return number >= least && number <= most;
        }

        boolean goesOn() {
            return error == 0 && kind != END;
        }

        void fail(int code) {
            if (error == 0) {
                error = code;
                errorAt = start;
            }
        }

        boolean isWord(String word) {
            if (kind != WORD || end - start != word.length()) {
                return false;
            }
            for (int i = 0; i < word.length(); i++) {
                if (bytes.get(start + i) != word.charAt(i)) {
                    return false;
                }
            }
            return true;
        }

        boolean isSign(int sign) {
            return kind == SIGN && value == sign;
        }

        boolean acceptWord(String word) {
            boolean found = isWord(word);
            if (found) {
                advance();
            }
            return found;
        }

        boolean acceptSign(int sign) {
            boolean found = isSign(sign);
            if (found) {
                advance();
            }
            return found;
        }

        void expectSign(int sign) {
            if (!isSign(sign)) {
                fail(NOT_ALLOWED);
            }
            advance();
        }

        /** The number that stands here; the least one after an error, so that what follows stays in range. */
        int checkNumber(int least, int most) {
            if (kind != NUMBER) {
                fail(NOT_ALLOWED);
                return least;
            }
            if (!isBetween(value, least, most)) {
                fail(OUT_OF_RANGE);
                return least;
            }
            return value;
        }

        int takeNumber(int least, int most) {
            int number = checkNumber(least, most);
            advance();
            return number;
        }
    }

    /** Reads the text of a bath into a bath of its own. After an error it may read on; what it reads is not used. */
    private static final class BathReader {
        private final Tokens tokens;
        private final Bath bath = new Bath();

        BathReader(Tokens tokens) {
            this.tokens = tokens;
        }

        void read() {
            readHead();
            for (int clauses = 0; clauses < MAX_BYTES && tokens.goesOn(); clauses++) {
                if (tokens.isWord("drain")) {
                    readDrain();
                } else if (tokens.isWord("tap")) {
                    readTap();
                } else if (tokens.isWord("boat")) {
                    readBoat();
                } else if (tokens.isWord("soap")) {
                    readSoap();
                } else {
                    tokens.fail(Tokens.NOT_ALLOWED);
                }
            }
        }

        private void readHead() {
            if (!tokens.acceptWord("bath")) {
                tokens.fail(Tokens.NOT_ALLOWED);
            }
            int width = tokens.takeNumber(3, MAX_SIDE);
            int height = tokens.takeNumber(3, MAX_SIDE);
            bath.begin(width, height);
            if (tokens.acceptWord("level")) {
                bath.level = tokens.takeNumber(0, MAX_LEVEL);
            }
            if (tokens.acceptWord("push")) {
                bath.push = tokens.takeNumber(0, 9);
            }
            if (tokens.acceptWord("wind")) {
                bath.windX = readWind();
                bath.windY = readWind();
            }
            tokens.expectSign(';');
        }

        private int readWind() {
            boolean negative = tokens.acceptSign('-');
            int number = tokens.takeNumber(0, 99);
            return negative ? -number : number;
        }

        private void readDrain() {
            readKeyword(bath.drainCount, MAX_SOURCES);
            int x = tokens.takeNumber(0, bath.width - 1);
            int y = readRowForSource(x);
            int size = tokens.takeNumber(1, 99);
            int rate = tokens.takeNumber(0, 99);
            tokens.expectSign(';');
            if (tokens.error == 0) {
                bath.addDrain(x, y, size, rate);
            }
        }

        private void readTap() {
            readKeyword(bath.tapCount, MAX_SOURCES);
            int x = tokens.takeNumber(0, bath.width - 1);
            int y = readRowForSource(x);
            int rate = tokens.takeNumber(0, 99);
            tokens.expectSign(';');
            if (tokens.error == 0) {
                bath.addTap(x, y, rate);
            }
        }

        private void readBoat() {
            readKeyword(bath.boatCount, MAX_BOATS);
            int x = tokens.takeNumber(0, bath.width - 1);
            int y = tokens.checkNumber(0, bath.height - 1);
            readRowEnd(bath.occupants.get(bath.cellAt(x, y)) != NONE);
            int weight = tokens.takeNumber(1, 99);
            int strength = tokens.takeNumber(1, 999);
            int wetness = tokens.acceptWord("wet") ? tokens.takeNumber(0, strength) : 0;
            tokens.expectSign(';');
            if (tokens.error == 0) {
                bath.launch(x, y, weight, strength);
                bath.boats.put(bath.boatCount - 1, Bath.WETNESS, wetness);
            }
        }

        private void readSoap() {
            tokens.advance();
            int x = tokens.takeNumber(0, bath.width - 1);
            int y = tokens.takeNumber(0, bath.height - 1);
            int amount = tokens.takeNumber(1, MAX_SOAP);
            tokens.expectSign(';');
            bath.soaps.put(bath.cellAt(x, y), amount);
        }

        private void readKeyword(int count, int most) {
            if (count >= most) {
                tokens.fail(Tokens.TOO_MANY);
            }
            tokens.advance();
        }

        private int readRowForSource(int x) {
            int y = tokens.checkNumber(0, bath.height - 1);
            int cell = bath.cellAt(x, y);
            readRowEnd(bath.drainIn(cell) != NONE || bath.tapIn(cell) != NONE);
            return y;
        }

        private void readRowEnd(boolean taken) {
            if (taken) {
                tokens.fail(Tokens.TAKEN);
            }
            tokens.advance();
        }
    }

    /** Reads a query and evaluates it for all boats at once: the bit b of a result says whether it holds for boat b. */
    private static final class QueryReader {
        private static final int MAX_OPEN = 6;
        // an operand is a number as it is, or PROPERTIES plus the property, which is below 0
        private static final int PROPERTIES = -100;
        // properties that are not among the numbers of a boat
        private static final int OWN_NUMBER = 11;
        private static final int CELL_SOAP = 12;

        private final Tokens tokens;
        private final Bath bath;

        QueryReader(Tokens tokens, Bath bath) {
            this.tokens = tokens;
            this.bath = bath;
        }

        int evaluate() {
            boolean many = tokens.isWord("many");
            if (!many && !tokens.isWord("first")) {
                tokens.fail(Tokens.NOT_ALLOWED);
            }
            tokens.advance();
            int holds = readTest(0);
            if (tokens.kind != Tokens.END) {
                tokens.fail(Tokens.NOT_ALLOWED);
            }
            return many ? Integer.bitCount(holds) : firstOf(holds);
        }

        private int firstOf(int holds) {
            for (int b = 0; b < bath.boatCount; b++) {
                if ((holds >> b & 1) == 1) {
                    return b;
                }
            }
            return NONE;
        }

        private int readTest(int open) {
            int any = 0;
            int all = readFactor(open);
            for (int more = 0; more < MAX_QUERY && tokens.goesOn(); more++) {
                if (tokens.acceptWord("and")) {
                    all &= readFactor(open);
                } else if (tokens.acceptWord("or")) {
                    any |= all;
                    all = readFactor(open);
                } else {
                    break;
                }
            }
            return any | all;
        }

        private int readFactor(int open) {
            boolean not = tokens.isWord("not");
            if (not || tokens.isSign('(')) {
                if (open >= MAX_OPEN) {
                    tokens.fail(Tokens.TOO_MANY);
                    return 0;
                }
                tokens.advance();
                if (not) {
                    return ~readFactor(open + 1) & (1 << bath.boatCount) - 1;
                }
                int holds = readTest(open + 1);
                tokens.expectSign(')');
                return holds;
            }
            int left = takeOperand();
            int sign = takeComparison();
            int right = takeOperand();
            return compare(left, sign, right);
        }

        private int takeOperand() {
            int operand = PROPERTIES + Bath.X;
            if (tokens.isWord("boat")) {
                operand = PROPERTIES + OWN_NUMBER;
            } else if (tokens.isWord("y")) {
                operand = PROPERTIES + Bath.Y;
            } else if (tokens.isWord("weight")) {
                operand = PROPERTIES + Bath.WEIGHT;
            } else if (tokens.isWord("strength")) {
                operand = PROPERTIES + Bath.STRENGTH;
            } else if (tokens.isWord("wet")) {
                operand = PROPERTIES + Bath.WETNESS;
            } else if (tokens.isWord("state")) {
                operand = PROPERTIES + Bath.STATE;
            } else if (tokens.isWord("soap")) {
                operand = PROPERTIES + CELL_SOAP;
            } else if (tokens.isWord("moves")) {
                operand = PROPERTIES + Bath.MOVES;
            } else if (tokens.isWord("hits")) {
                operand = PROPERTIES + Bath.HITS;
            } else if (!tokens.isWord("x")) {
                operand = tokens.checkNumber(0, 9999);
            }
            tokens.advance();
            return operand;
        }

        private int takeComparison() {
            int sign = tokens.value;
            if (!tokens.isSign('<') && !tokens.isSign('=') && !tokens.isSign('>')) {
                tokens.fail(Tokens.NOT_ALLOWED);
            }
            tokens.advance();
            return sign;
        }

        private int compare(int left, int sign, int right) {
            int holds = 0;
            for (int b = 0; b < bath.boatCount; b++) {
                int difference = operandOf(left, b) - operandOf(right, b);
                if (sign == '<' ? difference < 0 : sign == '>' ? difference > 0 : difference == 0) {
                    holds |= 1 << b;
                }
            }
            return holds;
        }

        private int operandOf(int operand, int boat) {
            if (operand >= 0) {
                return operand;
            }
            int property = operand - PROPERTIES;
            if (property == OWN_NUMBER) {
                return boat;
            }
            return property == CELL_SOAP ? bath.soaps.get(bath.cellOf(boat)) : bath.boats.get(boat, property);
        }
    }
}
