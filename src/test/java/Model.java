import java.util.ArrayDeque;
import java.util.ArrayList;
import java.util.Arrays;
import java.util.Deque;
import java.util.HashSet;
import java.util.List;
import java.util.Set;

/**
 * The document once more, in other words and without care for speed, to compare the class with.
 * It takes valid arguments where the class is asked about them first; all others it refuses as the document says.
 */
final class Model {
    private static final int[] ACROSS = {0, 1, 0, -1};
    private static final int[] DOWN = {-1, 0, 1, 0};
    private static final int FAR = 1_000_000;
    private static final Set<String> ORDERS = new HashSet<>();
    private static final Set<String> BEGINNINGS = new HashSet<>();

    static {
        for (int troop = 0; troop <= 11; troop++) {
            for (int cell = 0; cell < 96; cell++) {
                String text = troop + ">" + cell % 12 + "," + cell / 12;
                ORDERS.add(text);
                for (int i = 0; i <= text.length(); i++) {
                    BEGINNINGS.add(text.substring(0, i));
                }
            }
        }
    }

    private static final class Troop implements Cloneable {
        int side;
        int cell;
        int strength;
        int goal;
        int state;
        int first;
        int lost;
        int came;

        Troop copy() {
            try {
                return (Troop) clone();
            } catch (CloneNotSupportedException e) {
                throw new IllegalStateException(e);
            }
        }

        boolean there() {
            return state < 2;
        }
    }

    private record Order(int number, int troop, int goal, int turn) {
    }

    private static final class State {
        int[] height = new int[96];
        int[] general = {0, 95};
        int[] lostBy = {0, 0};
        List<Troop> troops = new ArrayList<>();
        List<Order> orders = new ArrayList<>();
        int turn;
        int given;
        int lostOrders;

        State copy() {
            State other = new State();
            other.height = height.clone();
            other.general = general.clone();
            other.lostBy = lostBy.clone();
            for (Troop troop : troops) {
                other.troops.add(troop.copy());
            }
            other.orders.addAll(orders);
            other.turn = turn;
            other.given = given;
            other.lostOrders = lostOrders;
            return other;
        }
    }

    private State now = new State();
    private final Deque<State> saved = new ArrayDeque<>();
    private String buffer = "";

    private static void index(boolean right) {
        if (!right) {
            throw new IndexOutOfBoundsException();
        }
    }

    private static void argument(boolean right) {
        if (!right) {
            throw new IllegalArgumentException();
        }
    }

    private static void state(boolean right) {
        if (!right) {
            throw new IllegalStateException();
        }
    }

    private static boolean in(int value, int least, int greatest) {
        return least <= value && value <= greatest;
    }

    private void save() {
        saved.addLast(now.copy());
        while (saved.size() > 5) {
            saved.removeFirst();
        }
    }

    int shape(int from, int to, int height) {
        index(in(from, 0, 95) && in(to, 0, 95));
        argument(from % 12 <= to % 12 && from / 12 <= to / 12 && in(height, 0, 9));
        save();
        int[] before = now.height.clone();
        for (int y = from / 12; y <= to / 12; y++) {
            for (int x = from % 12; x <= to % 12; x++) {
                now.height[12 * y + x] = height;
            }
        }
        int other = 0;
        for (int c = 0; c < 96; c++) {
            other += before[c] == now.height[c] ? 0 : 1;
        }
        return other;
    }

    int moveGeneral(int side, int cell) {
        index(in(side, 0, 1) && in(cell, 0, 95));
        save();
        int previous = now.general[side];
        now.general[side] = cell;
        return previous;
    }

    int addTroop(int side, int cell, int strength) {
        index(in(side, 0, 1) && in(cell, 0, 95));
        argument(in(strength, 1, 20));
        state(now.troops.size() < 12 && standing(now, cell, null) == -1);
        save();
        Troop troop = new Troop();
        troop.side = side;
        troop.cell = cell;
        troop.goal = cell;
        troop.strength = strength;
        troop.first = strength;
        now.troops.add(troop);
        return now.troops.size() - 1;
    }

    int order(int troop, int cell) {
        index(in(troop, 0, now.troops.size() - 1) && in(cell, 0, 95));
        state(why(troop) == 0);
        save();
        return give(troop, cell);
    }

    private int give(int troop, int cell) {
        Troop t = now.troops.get(troop);
        int takes = takes(now.general[t.side], t.cell);
        now.orders.add(new Order(now.given, troop, cell, now.turn + takes));
        now.given++;
        now.orders.sort((a, b) -> a.turn != b.turn ? a.turn - b.turn : a.number - b.number);
        return takes;
    }

    int pass(int turns) {
        argument(in(turns, 1, 50));
        state(now.turn + turns <= 1000);
        save();
        int before = now.lostBy[0] + now.lostBy[1];
        for (int i = 0; i < turns; i++) {
            turn(now);
        }
        return now.lostBy[0] + now.lostBy[1] - before;
    }

    int append(int code) {
        argument(in(code, 33, 126));
        state(buffer.length() < 60);
        buffer += (char) code;
        return buffer.length();
    }

    int clearBuffer() {
        int length = buffer.length();
        buffer = "";
        return length;
    }

    int firstError() {
        int good = 0;
        while (good < buffer.length() && begins(buffer.substring(0, good + 1))) {
            good++;
        }
        return good;
    }

    private static boolean begins(String text) {
        String[] parts = text.split(";", -1);
        for (int i = 0; i < parts.length - 1; i++) {
            if (!ORDERS.contains(parts[i])) {
                return false;
            }
        }
        return BEGINNINGS.contains(parts[parts.length - 1]);
    }

    int load() {
        String[] parts = buffer.split(";", -1);
        for (String part : parts) {
            argument(ORDERS.contains(part));
        }
        save();
        int given = 0;
        for (String part : parts) {
            int arrow = part.indexOf('>');
            int comma = part.indexOf(',');
            int troop = Integer.parseInt(part.substring(0, arrow));
            int x = Integer.parseInt(part.substring(arrow + 1, comma));
            int y = Integer.parseInt(part.substring(comma + 1));
            if (troop >= now.troops.size() || why(troop) != 0) {
                break;
            }
            give(troop, 12 * y + x);
            given++;
        }
        buffer = "";
        return given;
    }

    int undo() {
        state(!saved.isEmpty());
        now = saved.removeLast();
        return saved.size();
    }

    int cell(int cell, int what) {
        index(in(cell, 0, 95));
        argument(in(what, 0, 3));
        if (what == 0) {
            return now.height[cell];
        }
        if (what == 1) {
            return standing(now, cell, null);
        }
        int found = 0;
        for (int other = 0; other < 96; other++) {
            found += (what == 2 ? steps(now, cell, other) : look(now, cell, other)) ? 1 : 0;
        }
        return found;
    }

    int troop(int troop, int what) {
        index(in(troop, 0, now.troops.size() - 1));
        argument(in(what, 0, 8));
        Troop t = now.troops.get(troop);
        int under = (int) now.orders.stream().filter(o -> o.troop == troop).count();
        return new int[] {t.side, t.cell, t.strength, t.goal, t.state, t.first, t.lost, under, t.came}[what];
    }

    int underWay(int place, int what) {
        index(in(place, 0, now.orders.size() - 1));
        argument(in(what, 0, 3));
        Order o = now.orders.get(place);
        return new int[] {o.number, o.troop, o.goal, o.turn}[what];
    }

    int count(int what) {
        argument(in(what, 0, 13));
        return count(now, what);
    }

    private int count(State s, int what) {
        int there = 0;
        int routed = 0;
        int[] strength = new int[2];
        for (Troop t : s.troops) {
            there += t.there() ? 1 : 0;
            routed += t.state == 1 ? 1 : 0;
            strength[t.side] += t.strength;
        }
        return new int[] {s.turn, s.troops.size(), there, routed, s.given, s.orders.size(), s.lostOrders,
            s.lostBy[0], s.lostBy[1], strength[0], strength[1], s.general[0], s.general[1], saved.size()}[what];
    }

    boolean sees(int one, int other) {
        index(in(one, 0, 95) && in(other, 0, 95));
        return look(now, one, other);
    }

    int distance(int from, int to) {
        index(in(from, 0, 95) && in(to, 0, 95));
        int d = lengths(now, from, -1, null)[to];
        return d >= FAR ? -1 : d;
    }

    int why(int troop) {
        index(in(troop, 0, now.troops.size() - 1));
        Troop t = now.troops.get(troop);
        if (!t.there()) {
            return 1;
        }
        if (takes(now.general[t.side], t.cell) == -1) {
            return 2;
        }
        return now.orders.size() == 30 ? 3 : 0;
    }

    int bestPost(int side) {
        index(in(side, 0, 1));
        int best = -1;
        int least = FAR;
        for (int cell = 0; cell < 96; cell++) {
            int sum = 0;
            for (Troop t : now.troops) {
                if (t.side == side && t.there()) {
                    int takes = takes(cell, t.cell);
                    sum += takes == -1 ? 20 : takes;
                }
            }
            if (sum < least) {
                least = sum;
                best = cell;
            }
        }
        return best;
    }

    int ifPassed(int turns, int what) {
        argument(in(turns, 1, 50) && (what == 2 || what == 3 || in(what, 6, 10)));
        return count(after(turns), what);
    }

    private State after(int turns) {
        State then = now.copy();
        for (int i = 0; i < turns; i++) {
            turn(then);
        }
        return then;
    }

    int arrivesIn(int troop) {
        index(in(troop, 0, now.troops.size() - 1));
        State then = now.copy();
        for (int i = 0; i <= 60; i++) {
            Troop t = then.troops.get(troop);
            if (t.there() && t.cell == t.goal) {
                return i;
            }
            turn(then);
        }
        return -1;
    }

    double strengthLeft() {
        int first = 0;
        int left = 0;
        for (Troop t : now.troops) {
            first += t.first;
            left += t.strength;
        }
        return now.troops.isEmpty() ? 1.0 : (double) left / first;
    }

    long digest() {
        List<Long> values = new ArrayList<>();
        for (int what = 0; what <= 13; what++) {
            values.add((long) count(what));
        }
        for (int cell = 0; cell < 96; cell++) {
            for (int what = 0; what <= 2; what++) {
                values.add((long) cell(cell, what));
            }
        }
        for (int troop = 0; troop < now.troops.size(); troop++) {
            for (int what = 0; what <= 8; what++) {
                values.add((long) troop(troop, what));
            }
            values.add((long) why(troop));
        }
        for (int place = 0; place < now.orders.size(); place++) {
            for (int what = 0; what <= 3; what++) {
                values.add((long) underWay(place, what));
            }
        }
        values.add((long) cell(now.general[0], 3));
        values.add((long) cell(now.general[1], 3));
        State then = after(10);
        for (int what : new int[] {2, 3, 6, 7, 8, 9, 10}) {
            values.add((long) count(then, what));
        }
        values.add(Double.doubleToLongBits(strengthLeft()));
        values.add((long) buffer.length());
        for (char c : buffer.toCharArray()) {
            values.add((long) c);
        }
        long hash = 2243;
        for (long v : values) {
            hash = 31 * hash + v;
        }
        return hash;
    }

    private int takes(int general, int cell) {
        if (look(now, general, cell)) {
            return 1;
        }
        int d = lengths(now, general, -1, null)[cell];
        return d >= FAR ? -1 : Math.max(1, Math.floorDiv(d + 2, 3));
    }

    private static boolean near(int one, int other) {
        return Math.abs(one % 12 - other % 12) + Math.abs(one / 12 - other / 12) == 1;
    }

    private static boolean steps(State s, int one, int other) {
        return near(one, other) && Math.abs(s.height[one] - s.height[other]) <= 2;
    }

    private static boolean look(State s, int one, int other) {
        int a = Math.min(one, other);
        int b = Math.max(one, other);
        int dx = b % 12 - a % 12;
        int dy = b / 12 - a / 12;
        int n = Math.max(Math.abs(dx), Math.abs(dy));
        for (int k = 1; k <= n - 1; k++) {
            int x = Math.floorDiv(2 * (n * (a % 12) + k * dx) + n, 2 * n);
            int y = Math.floorDiv(2 * (n * (a / 12) + k * dy) + n, 2 * n);
            if (s.height[12 * y + x] * n > (s.height[a] + 1) * (n - k) + (s.height[b] + 1) * k) {
                return false;
            }
        }
        return true;
    }

    /** The number of the troop in the cell that is not gone and not the one that is left out; -1 if there is none. */
    private static int standing(State s, int cell, Troop without) {
        for (int i = 0; i < s.troops.size(); i++) {
            Troop t = s.troops.get(i);
            if (t != without && t.there() && t.cell == cell) {
                return i;
            }
        }
        return -1;
    }

    /** Least numbers of steps from a cell to all; if a goal is told, over cells where no other troop is. */
    private static int[] lengths(State s, int from, int goal, Troop walker) {
        boolean[] closed = new boolean[96];
        for (int cell = 0; cell < 96; cell++) {
            closed[cell] = walker != null && cell != goal && standing(s, cell, walker) != -1;
        }
        int[] length = new int[96];
        Arrays.fill(length, FAR);
        length[from] = 0;
        for (boolean again = true; again;) {
            again = false;
            for (int cell = 0; cell < 96; cell++) {
                for (int d = 0; d < 4; d++) {
                    int other = neighbour(cell, d);
                    if (other != -1 && !closed[cell] && steps(s, other, cell) && length[other] + 1 < length[cell]) {
                        length[cell] = length[other] + 1;
                        again = true;
                    }
                }
            }
        }
        return length;
    }

    private static int neighbour(int cell, int d) {
        int x = cell % 12 + ACROSS[d];
        int y = cell / 12 + DOWN[d];
        return in(x, 0, 11) && in(y, 0, 7) ? 12 * y + x : -1;
    }

    private static void turn(State s) {
        s.turn++;
        for (Order o : new ArrayList<>(s.orders)) {
            if (o.turn == s.turn) {
                s.orders.remove(o);
                Troop t = s.troops.get(o.troop);
                if (t.state == 0) {
                    t.goal = o.goal;
                    t.came++;
                } else {
                    s.lostOrders++;
                }
            }
        }
        for (Troop t : s.troops) {
            if (t.state == 0 && t.cell != t.goal) {
                march(s, t);
            } else if (t.state == 1) {
                int next = neighbour(t.cell, t.side == 0 ? 3 : 1);
                if (next != -1 && steps(s, t.cell, next) && standing(s, next, t) == -1) {
                    t.cell = next;
                }
            }
        }
        fight(s);
        for (Troop t : s.troops) {
            boolean enemySeen = false;
            for (Troop e : s.troops) {
                enemySeen |= e.there() && e.side != t.side && look(s, t.cell, e.cell);
            }
            if (t.state == 0 && t.lost > 0 && 2 * t.strength <= t.first) {
                t.state = 1;
            } else if (t.state == 1 && t.lost == 0 && !enemySeen) {
                t.state = 0;
                t.goal = t.cell;
            }
        }
    }

    private static void march(State s, Troop t) {
        int least = lengths(s, t.cell, t.goal, t)[t.goal];
        for (int d = 0; d < 4 && least < FAR; d++) {
            int next = neighbour(t.cell, d);
            if (next != -1 && steps(s, t.cell, next) && standing(s, next, t) == -1
                    && lengths(s, next, t.goal, t)[t.goal] + 1 == least) {
                t.cell = next;
                return;
            }
        }
    }

    private static void fight(State s) {
        int[] loss = new int[s.troops.size()];
        for (int i = 0; i < loss.length; i++) {
            Troop t = s.troops.get(i);
            for (Troop e : s.troops) {
                if (t.there() && e.there() && e.side != t.side && near(t.cell, e.cell)) {
                    loss[i] += s.height[e.cell] > s.height[t.cell] ? 2 : 1;
                }
            }
            loss[i] = Math.min(loss[i], t.strength);
        }
        for (int i = 0; i < loss.length; i++) {
            Troop t = s.troops.get(i);
            t.lost = loss[i];
            t.strength -= loss[i];
            s.lostBy[t.side] += loss[i];
            if (t.strength == 0) {
                t.state = 2;
            }
        }
    }
}
