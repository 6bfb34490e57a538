import java.util.ArrayDeque;
import java.util.ArrayList;
import java.util.Arrays;
import java.util.Deque;
import java.util.List;
import java.util.NoSuchElementException;
import java.util.PriorityQueue;

/**
 * The document a second time, written apart from BathBoats and with the whole Java library, to be compared with it.
 * It holds its state in objects, copies them freely and looks everything up anew.
 */
final class Model {
    static final class Boat {
        int x, y, weight, strength, wet, driftX, driftY, state, endTime = -1, moves, hits;

        Boat copy() {
            Boat c = new Boat();
            c.x = x; c.y = y; c.weight = weight; c.strength = strength; c.wet = wet; c.driftX = driftX;
            c.driftY = driftY; c.state = state; c.endTime = endTime; c.moves = moves; c.hits = hits;
            return c;
        }

        int[] numbers() {
            return new int[] {x, y, weight, strength, wet, driftX, driftY, state, endTime, moves, hits};
        }
    }

    static final class Drain {
        int x, y, size, rate, drained;

        Drain copy() {
            Drain c = new Drain();
            c.x = x; c.y = y; c.size = size; c.rate = rate; c.drained = drained;
            return c;
        }
    }

    static final class Tap {
        int x, y, rate;

        Tap copy() {
            Tap c = new Tap();
            c.x = x; c.y = y; c.rate = rate;
            return c;
        }
    }

    static final class State {
        int w, h, level = 500, push = 1, windX, windY, time;
        int[][] soap;
        List<Boat> boats = new ArrayList<>();
        List<Drain> drains = new ArrayList<>();
        List<Tap> taps = new ArrayList<>();
        List<Integer> ended = new ArrayList<>();

        State(int w, int h) {
            this.w = w;
            this.h = h;
            soap = new int[h][w];
        }

        State copy() {
            State c = new State(w, h);
            c.level = level; c.push = push; c.windX = windX; c.windY = windY; c.time = time;
            for (int y = 0; y < h; y++) c.soap[y] = soap[y].clone();
            for (Boat b : boats) c.boats.add(b.copy());
            for (Drain d : drains) c.drains.add(d.copy());
            for (Tap t : taps) c.taps.add(t.copy());
            c.ended.addAll(ended);
            return c;
        }

        boolean inside(int x, int y) { return 0 <= x && x < w && 0 <= y && y < h; }

        int soapAt(int x, int y) { return inside(x, y) ? soap[y][x] : 0; }

        int boatAt(int x, int y) {
            for (int i = 0; i < boats.size(); i++) {
                Boat b = boats.get(i);
                if (b.state == 0 && b.x == x && b.y == y) return i;
            }
            return -1;
        }

        boolean works(Drain d) {
            if (d.rate == 0) return false;
            int b = boatAt(d.x, d.y);
            return b < 0 || !(boats.get(b).weight > d.size);
        }

        float[] flow(int x, int y) {
            float[] f = {0f, 0f};
            for (Drain d : drains) {
                if (!works(d) || d.x == x && d.y == y) continue;
                int dx = d.x - x, dy = d.y - y;
                float pull = (float) d.rate / (float) (dx * dx + dy * dy);
                f[0] = f[0] + (pull * (float) dx) / (float) (Math.abs(dx) + Math.abs(dy));
                f[1] = f[1] + (pull * (float) dy) / (float) (Math.abs(dx) + Math.abs(dy));
            }
            for (Tap t : taps) {
                if (t.x == x && t.y == y) continue;
                int dx = t.x - x, dy = t.y - y;
                float pull = (float) t.rate / (float) (dx * dx + dy * dy);
                f[0] = f[0] - (pull * (float) dx) / (float) (Math.abs(dx) + Math.abs(dy));
                f[1] = f[1] - (pull * (float) dy) / (float) (Math.abs(dx) + Math.abs(dy));
            }
            return f;
        }

        float force(int x, int y) {
            float[] f = flow(x, y);
            return Math.abs(f[0]) + Math.abs(f[1]);
        }

        int growX(Boat b) {
            float part = flow(b.x, b.y)[0] * (float) level / (float) (10 * b.weight);
            return (int) part + push * (soapAt(b.x - 1, b.y) - soapAt(b.x + 1, b.y)) + 10 * windX / b.weight;
        }

        int growY(Boat b) {
            float part = flow(b.x, b.y)[1] * (float) level / (float) (10 * b.weight);
            return (int) part + push * (soapAt(b.x, b.y - 1) - soapAt(b.x, b.y + 1)) + 10 * windY / b.weight;
        }

        static int limit(int d) { return d > 300 ? 300 : d < -300 ? -300 : d; }

        void turn() {
            time++;
            int sum = level;
            for (Tap t : taps) sum += t.rate;
            for (Drain d : drains) if (works(d)) sum -= d.rate;
            level = sum < 0 ? 0 : sum > 1000 ? 1000 : sum;
            if (level > 0) {
                for (Boat b : boats) if (b.state == 0) drift(b);
            }
            for (int i = 0; i < boats.size(); i++) {
                Boat b = boats.get(i);
                if (b.state != 0) continue;
                b.wet += 1 + soap[b.y][b.x] / 10;
                if (b.wet > b.strength) {
                    end(i, 1);
                } else {
                    for (Drain d : drains) {
                        if (b.state == 0 && d.x == b.x && d.y == b.y && d.rate > 0 && b.weight <= d.size) {
                            d.drained++;
                            end(i, 2);
                        }
                    }
                }
            }
            int[][] then = new int[h][w];
            for (int y = 0; y < h; y++) {
                for (int x = 0; x < w; x++) {
                    int amount = soap[y][x];
                    for (int[] n : around(x, y)) {
                        if (soap[y][x] >= 4) amount--;
                        if (soap[n[1]][n[0]] >= 4) amount++;
                    }
                    then[y][x] = Math.min(99, amount);
                }
            }
            soap = then;
        }

        void end(int i, int how) {
            Boat b = boats.get(i);
            b.state = how;
            b.endTime = time;
            ended.add(i);
        }

        List<int[]> around(int x, int y) {
            List<int[]> list = new ArrayList<>();
            for (int[] n : new int[][] {{x, y - 1}, {x - 1, y}, {x + 1, y}, {x, y + 1}}) {
                if (inside(n[0], n[1])) list.add(n);
            }
            return list;
        }

        void drift(Boat b) {
            int gx = growX(b), gy = growY(b);
            b.driftX = limit(b.driftX + gx);
            b.driftY = limit(b.driftY + gy);
            if (b.driftX >= 100 || b.driftX <= -100) {
                int to = b.driftX > 0 ? b.x + 1 : b.x - 1;
                int other = boatAt(to, b.y);
                if (!inside(to, b.y)) {
                    b.driftX = 0;
                } else if (other >= 0) {
                    Boat o = boats.get(other);
                    o.driftX = limit(o.driftX + b.driftX * b.weight / (b.weight + o.weight));
                    b.driftX = 0;
                    b.hits++;
                } else {
                    b.x = to;
                    b.moves++;
                    b.driftX = b.driftX > 0 ? b.driftX - 100 : b.driftX + 100;
                }
            }
            if (b.driftY >= 100 || b.driftY <= -100) {
                int to = b.driftY > 0 ? b.y + 1 : b.y - 1;
                int other = boatAt(b.x, to);
                if (!inside(b.x, to)) {
                    b.driftY = 0;
                } else if (other >= 0) {
                    Boat o = boats.get(other);
                    o.driftY = limit(o.driftY + b.driftY * b.weight / (b.weight + o.weight));
                    b.driftY = 0;
                    b.hits++;
                } else {
                    b.y = to;
                    b.moves++;
                    b.driftY = b.driftY > 0 ? b.driftY - 100 : b.driftY + 100;
                }
            }
        }

        int afloat() {
            int n = 0;
            for (Boat b : boats) if (b.state == 0) n++;
            return n;
        }

        boolean free(int boat, int x, int y) {
            Boat b = boats.get(boat);
            if (b.x == x && b.y == y) return true;
            if (boatAt(x, y) >= 0) return false;
            for (Drain d : drains) if (d.x == x && d.y == y && d.rate > 0 && d.size >= b.weight) return false;
            return true;
        }

        /** Least cost of a route of a boat from a cell to another one; -1 if there is none. */
        int distance(int boat, int fromX, int fromY, int toX, int toY) {
            int[] best = new int[w * h];
            Arrays.fill(best, Integer.MAX_VALUE);
            PriorityQueue<int[]> open = new PriorityQueue<>((p, q) -> Integer.compare(p[0], q[0]));
            open.add(new int[] {0, fromX, fromY});
            while (!open.isEmpty()) {
                int[] c = open.poll();
                if (c[1] == toX && c[2] == toY) return c[0];
                if (c[0] >= best[w * c[2] + c[1]]) continue;
                best[w * c[2] + c[1]] = c[0];
                for (int[] n : around(c[1], c[2])) {
                    if (free(boat, n[0], n[1])) open.add(new int[] {c[0] + 1 + soap[n[1]][n[0]], n[0], n[1]});
                }
            }
            return -1;
        }

        int towStep(int boat, int x, int y) {
            Boat b = boats.get(boat);
            if (b.state != 0 || b.x == x && b.y == y) return -1;
            int least = Integer.MAX_VALUE, cell = -1;
            for (int[] n : around(b.x, b.y)) {
                if (!free(boat, n[0], n[1])) continue;
                int d = distance(boat, n[0], n[1], x, y);
                if (d >= 0 && 1 + soap[n[1]][n[0]] + d < least) {
                    least = 1 + soap[n[1]][n[0]] + d;
                    cell = w * n[1] + n[0];
                }
            }
            return cell;
        }

        int life(int boat) {
            State s = copy();
            int life = 0;
            for (int i = 1; i <= 40; i++) {
                s.turn();
                if (s.boats.get(boat).state == 0) life = i;
            }
            return life;
        }

        void dropSoap(int x, int y, int amount) { soap[y][x] = Math.min(99, soap[y][x] + amount); }
    }

    State s = new State(5, 5);
    State snapshot;
    final Deque<State> past = new ArrayDeque<>();
    final List<Integer> buffer = new ArrayList<>();
    int errorAt = -1;
    String formatted = "";

    private static void element(boolean ok) { if (!ok) throw new NoSuchElementException(); }

    private static void argument(boolean ok) { if (!ok) throw new IllegalArgumentException(); }

    private void boatThere(int b) { element(b >= 0 && b < s.boats.size()); }

    private void cellThere(int x, int y) { element(s.inside(x, y)); }

    private void record() {
        past.push(s.copy());
        if (past.size() > 10) past.removeLast();
    }

    private State after(int turns) {
        State c = s.copy();
        for (int i = 0; i < turns; i++) c.turn();
        return c;
    }

    int feed(int a, int b, int c, int d, int e) {
        if (buffer.size() + 20 > 700) return -1;
        for (int v : new int[] {a, b, c, d, e}) {
            for (int k = 3; k >= 0; k--) buffer.add((v >> (8 * k)) & 0xff);
        }
        return buffer.size();
    }

    private List<Integer> take(int length) {
        List<Integer> text = new ArrayList<>(buffer.subList(0, length));
        buffer.clear();
        return text;
    }

    int load(int length) {
        argument(length >= 0 && length <= buffer.size());
        try {
            State read = new ModelText(take(length)).bath();
            errorAt = -1;
            s = read;
            past.clear();
            snapshot = null;
            return s.boats.size();
        } catch (ModelText.Wrong e) {
            errorAt = e.at;
            return -10 - e.code;
        }
    }

    int query(int length) {
        argument(length >= 0 && length <= 200 && length <= buffer.size());
        try {
            int answer = new ModelText(take(length)).query(s);
            errorAt = -1;
            return answer;
        } catch (ModelText.Wrong e) {
            errorAt = e.at;
            return -1000000000 - e.code;
        }
    }

    int errorPosition() { return errorAt; }

    int size(int what) {
        element(what >= 0 && what <= 14);
        int sunk = 0, drained = 0, works = 0, soap = 0;
        for (Boat b : s.boats) {
            if (b.state == 1) sunk++;
            if (b.state == 2) drained++;
        }
        for (Drain d : s.drains) if (s.works(d)) works++;
        for (int[] row : s.soap) for (int v : row) soap += v;
        return new int[] {s.w, s.h, s.drains.size(), s.taps.size(), s.boats.size(), s.afloat(), sunk, drained, s.time,
                s.level, s.push, works, soap, s.windX, s.windY}[what];
    }

    int boat(int boat, int what) {
        boatThere(boat);
        element(what >= 0 && what <= 10);
        return s.boats.get(boat).numbers()[what];
    }

    int drain(int drain, int what) {
        element(drain >= 0 && drain < s.drains.size() && what >= 0 && what <= 5);
        Drain d = s.drains.get(drain);
        return new int[] {d.x, d.y, d.size, d.rate, s.works(d) ? 1 : 0, d.drained}[what];
    }

    int tap(int tap, int what) {
        element(tap >= 0 && tap < s.taps.size() && what >= 0 && what <= 2);
        Tap t = s.taps.get(tap);
        return what == 0 ? t.x : what == 1 ? t.y : t.rate;
    }

    int soap(int x, int y) { cellThere(x, y); return s.soap[y][x]; }

    int boatAt(int x, int y) { cellThere(x, y); return s.boatAt(x, y); }

    int afloat(int i) {
        List<Integer> list = new ArrayList<>();
        for (int b = 0; b < s.boats.size(); b++) if (s.boats.get(b).state == 0) list.add(b);
        element(i >= 0 && i < list.size());
        return list.get(i);
    }

    int ended(int i, int what) {
        element(i >= 0 && i < s.ended.size() && what >= 0 && what <= 3);
        Boat b = s.boats.get(s.ended.get(i));
        return new int[] {s.ended.get(i), b.endTime, b.state, s.w * b.y + b.x}[what];
    }

    float flow(int x, int y, boolean across) { cellThere(x, y); return s.flow(x, y)[across ? 0 : 1]; }

    int pushOn(int boat, boolean across) {
        boatThere(boat);
        Boat b = s.boats.get(boat);
        return b.state != 0 || s.level == 0 ? 0 : across ? s.growX(b) : s.growY(b);
    }

    int strongest() {
        int best = 0;
        for (int c = 1; c < s.w * s.h; c++) {
            if (s.force(c % s.w, c / s.w) > s.force(best % s.w, best / s.w)) best = c;
        }
        return best;
    }

    int calm(int x, int y, int limit) {
        cellThere(x, y);
        argument(limit >= 0 && limit <= 9999);
        boolean[][] seen = new boolean[s.h][s.w];
        return calmFrom(x, y, limit, seen);
    }

    private int calmFrom(int x, int y, int limit, boolean[][] seen) {
        if (!s.inside(x, y) || seen[y][x] || s.force(x, y) > (float) limit) return 0;
        seen[y][x] = true;
        int n = 1;
        for (int[] next : s.around(x, y)) n += calmFrom(next[0], next[1], limit, seen);
        return n;
    }

    int nearest(int drain) {
        element(drain >= 0 && drain < s.drains.size());
        Drain d = s.drains.get(drain);
        for (int far = 0; far < 20; far++) {
            for (int b = 0; b < s.boats.size(); b++) {
                Boat o = s.boats.get(b);
                if (o.state == 0 && Math.abs(o.x - d.x) + Math.abs(o.y - d.y) == far) return b;
            }
        }
        return -1;
    }

    int softest() {
        for (int r = 0; r < 1000; r++) {
            for (int b = 0; b < s.boats.size(); b++) {
                Boat o = s.boats.get(b);
                if (o.state == 0 && o.strength - o.wet == r) return b;
            }
        }
        return -1;
    }

    int driesOut(int boat) {
        boatThere(boat);
        Boat b = s.boats.get(boat);
        return b.state == 0 ? b.strength - b.wet + 1 : -1;
    }

    int tow(int boat, int x, int y) {
        boatThere(boat);
        cellThere(x, y);
        Boat b = s.boats.get(boat);
        return b.state == 0 ? s.distance(boat, b.x, b.y, x, y) : -1;
    }

    int towStep(int boat, int x, int y) {
        boatThere(boat);
        cellThere(x, y);
        return s.towStep(boat, x, y);
    }

    int endsIn(int boat) {
        boatThere(boat);
        State c = s.copy();
        for (int t = 0; t <= 300; t++) {
            if (c.boats.get(boat).state != 0) return t;
            c.turn();
        }
        return -1;
    }

    int emptyIn() {
        State c = s.copy();
        for (int t = 0; t <= 300; t++) {
            if (c.level == 0) return t;
            c.turn();
        }
        return -1;
    }

    int boatIn(int boat, int what, int turns) {
        boatThere(boat);
        element(what >= 0 && what <= 10);
        argument(turns >= 0 && turns <= 300);
        return after(turns).boats.get(boat).numbers()[what];
    }

    int afloatIn(int turns) {
        argument(turns >= 0 && turns <= 300);
        return after(turns).afloat();
    }

    int rescue(int boat, int amount) {
        boatThere(boat);
        argument(amount >= 1 && amount <= 99);
        if (s.boats.get(boat).state != 0) return -1;
        int[] lives = new int[s.w * s.h];
        for (int c = 0; c < lives.length; c++) {
            State n = s.copy();
            n.dropSoap(c % s.w, c / s.w, amount);
            lives[c] = n.life(boat);
        }
        return bestAbove(lives, s.life(boat));
    }

    int refuge(int boat) {
        boatThere(boat);
        if (s.boats.get(boat).state != 0) return -1;
        int[] lives = new int[s.w * s.h];
        for (int c = 0; c < lives.length; c++) {
            State n = s.copy();
            int there = s.boatAt(c % s.w, c / s.w);
            if (there >= 0 && there != boat) {
                lives[c] = -1;
                continue;
            }
            Boat b = n.boats.get(boat);
            b.x = c % s.w;
            b.y = c / s.w;
            b.driftX = b.driftY = 0;
            lives[c] = n.life(boat);
        }
        return bestAbove(lives, s.life(boat));
    }

    int plug() {
        int[] counts = new int[s.drains.size()];
        for (int d = 0; d < counts.length; d++) {
            State n = s.copy();
            n.drains.get(d).rate = 0;
            for (int i = 0; i < 40; i++) n.turn();
            counts[d] = n.afloat();
        }
        return bestAbove(counts, after(40).afloat());
    }

    private static int bestAbove(int[] values, int bound) {
        int best = -1;
        for (int i = values.length - 1; i >= 0; i--) {
            if (values[i] > bound && (best < 0 || values[i] >= values[best])) best = i;
        }
        return best;
    }

    double softness() {
        int wet = 0, strength = 0;
        for (Boat b : s.boats) {
            if (b.state == 0) {
                wet += b.wet;
                strength += b.strength;
            }
        }
        return s.afloat() == 0 ? 0 : (double) wet / (double) strength;
    }

    float afloatShare() { return s.boats.isEmpty() ? 0 : (float) s.afloat() / (float) s.boats.size(); }

    int addBoat(int x, int y, int weight, int strength) {
        cellThere(x, y);
        argument(weight >= 1 && weight <= 99 && strength >= 1 && strength <= 999);
        if (s.boats.size() == 12) return -2;
        if (s.boatAt(x, y) >= 0) return -3;
        record();
        Boat b = new Boat();
        b.x = x;
        b.y = y;
        b.weight = weight;
        b.strength = strength;
        s.boats.add(b);
        return s.boats.size() - 1;
    }

    int carry(int boat, int x, int y) {
        boatThere(boat);
        cellThere(x, y);
        Boat b = s.boats.get(boat);
        if (b.state != 0) return -2;
        if (s.boatAt(x, y) >= 0 && s.boatAt(x, y) != boat) return -3;
        record();
        int from = s.w * b.y + b.x;
        b.x = x;
        b.y = y;
        b.driftX = b.driftY = 0;
        return from;
    }

    int pull(int boat, int x, int y, int budget) {
        boatThere(boat);
        cellThere(x, y);
        argument(budget >= 0 && budget <= 9999);
        Boat b = s.boats.get(boat);
        if (b.state != 0) return -2;
        if (s.distance(boat, b.x, b.y, x, y) < 0) return -3;
        record();
        int spent = 0;
        while (b.x != x || b.y != y) {
            int next = s.towStep(boat, x, y);
            int cost = 1 + s.soap[next / s.w][next % s.w];
            if (spent + cost > budget) break;
            spent += cost;
            b.x = next % s.w;
            b.y = next / s.w;
        }
        b.driftX = b.driftY = 0;
        return spent;
    }

    int blow(int boat, int dx, int dy) {
        boatThere(boat);
        argument(dx >= -300 && dx <= 300 && dy >= -300 && dy <= 300);
        Boat b = s.boats.get(boat);
        if (b.state != 0) return -2;
        record();
        b.driftX = State.limit(b.driftX + dx);
        b.driftY = State.limit(b.driftY + dy);
        return Math.abs(b.driftX) + Math.abs(b.driftY);
    }

    int dry(int boat) {
        boatThere(boat);
        Boat b = s.boats.get(boat);
        if (b.state != 0) return -2;
        record();
        int before = b.wet;
        b.wet = 0;
        return before;
    }

    int setDrain(int drain, int rate) {
        element(drain >= 0 && drain < s.drains.size());
        argument(rate >= 0 && rate <= 99);
        record();
        int before = s.drains.get(drain).rate;
        s.drains.get(drain).rate = rate;
        return before;
    }

    int setTap(int tap, int rate) {
        element(tap >= 0 && tap < s.taps.size());
        argument(rate >= 0 && rate <= 99);
        record();
        int before = s.taps.get(tap).rate;
        s.taps.get(tap).rate = rate;
        return before;
    }

    int dropSoap(int x, int y, int amount) {
        cellThere(x, y);
        argument(amount >= 1 && amount <= 99);
        record();
        s.dropSoap(x, y, amount);
        return s.soap[y][x];
    }

    int wipe(int x, int y) {
        cellThere(x, y);
        record();
        int before = s.soap[y][x];
        s.soap[y][x] = 0;
        return before;
    }

    int setPush(int push) {
        argument(push >= 0 && push <= 9);
        record();
        int before = s.push;
        s.push = push;
        return before;
    }

    int setWind(int x, int y) {
        argument(x >= -99 && x <= 99 && y >= -99 && y <= 99);
        record();
        int before = Math.abs(s.windX) + Math.abs(s.windY);
        s.windX = x;
        s.windY = y;
        return before;
    }

    int setLevel(int level) {
        argument(level >= 0 && level <= 1000);
        record();
        int before = s.level;
        s.level = level;
        return before;
    }

    int turn(int turns) {
        argument(turns >= 1 && turns <= 200);
        record();
        int before = s.afloat();
        for (int i = 0; i < turns; i++) s.turn();
        return before - s.afloat();
    }

    int format(int y) {
        element(y >= 0 && y < s.h);
        StringBuilder text = new StringBuilder();
        for (int x = 0; x < s.w; x++) {
            char c = s.soap[y][x] > 0 ? '*' : '.';
            for (Tap t : s.taps) if (t.x == x && t.y == y) c = '+';
            for (Drain d : s.drains) if (d.x == x && d.y == y) c = s.works(d) ? 'O' : 'o';
            if (s.boatAt(x, y) >= 0) c = (char) ('a' + s.boatAt(x, y));
            text.append(c);
        }
        formatted = text.toString();
        return formatted.length();
    }

    int formattedByte(int index) {
        return index >= 0 && index < formatted.length() ? formatted.charAt(index) : -1;
    }

    int undoCount() { return past.size(); }

    int undo() {
        if (past.isEmpty()) return -1;
        s = past.pop();
        return past.size();
    }

    void saveSnapshot() { snapshot = s.copy(); }

    boolean restoreSnapshot() {
        if (snapshot == null) return false;
        s = snapshot.copy();
        past.clear();
        return true;
    }
}
