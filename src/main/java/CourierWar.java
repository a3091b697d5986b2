import java.util.Arrays;

/** A small war of miniatures, as ../shared/DOC.md tells it. */
public final class CourierWar {
    /** There is nothing to return. */
    public static final int NONE = -1;

    private static final int COLUMNS = 12;
    private static final int ROWS = 8;
    private static final int CELLS = COLUMNS * ROWS;
    private static final int DIRECTIONS = 4;
    private static final int MAX_HEIGHT = 9;
    private static final int MAX_CLIMB = 2;

    private static final int SIDES = 2;
    private static final int MAX_TROOPS = 12;
    private static final int MAX_STRENGTH = 20;
    private static final int STEADY = 0;
    private static final int ROUTED = 1;
    private static final int GONE = 2;

    private static final int MAX_UNDER_WAY = 30;
    private static final int UNREACHED_TURNS = 20;
    private static final int MAX_PASS = 50;
    private static final int LAST_TURN = 1000;
    private static final int MAX_ARRIVAL = 60;
    private static final int DIGEST_AHEAD = 10;
    private static final long HASH_START = 2243L;

    private static final int IS_GONE = 1;
    private static final int NO_WAY = 2;
    private static final int TOO_MANY_ORDERS = 3;

    private static final int CELL_FIGURES = 4;
    private static final int TROOP_FIGURES = 9;
    private static final int ORDER_FIGURES = 4;
    private static final int COUNT_FIGURES = 14;
    private static final int SAVED_STATES = 13;

    private static final int MAX_SAVED = 5;
    private static final int MAX_TEXT = 60;
    private static final int MAX_TEXT_ORDERS = 10;
    private static final int FIRST_SIGN = 33;
    private static final int LAST_SIGN = 126;

    private final War war = new War();
    /** The war that is looked ahead in, so that the one that stands is never touched by it. */
    private final War trial = new War();
    private final History history = new History();
    private final Text text = new Text();
    private final Couriers couriers = new Couriers();
    private final Marshal marshal = new Marshal();

    public CourierWar() {
    }

    // ---- field, generals, troops

    public int shape(int from, int to, int height) throws IndexOutOfBoundsException, IllegalArgumentException {
        needCell(from);
        needCell(to);
        if (from % COLUMNS > to % COLUMNS || from / COLUMNS > to / COLUMNS) {
            throw new IllegalArgumentException("the block's corners are the wrong way round");
        }
        if (height < 0 || height > MAX_HEIGHT) {
            throw new IllegalArgumentException("a height is 0 to 9");
        }
        history.save(war);
        return war.terrain.level(from, to, height);
    }

    public int moveGeneral(int side, int cell) throws IndexOutOfBoundsException {
        needSide(side);
        needCell(cell);
        history.save(war);
        int previous = war.generals[side];
        war.generals[side] = cell;
        return previous;
    }

    public int addTroop(int side, int cell, int strength)
            throws IndexOutOfBoundsException, IllegalArgumentException, IllegalStateException {
        needSide(side);
        needCell(cell);
        if (strength < 1 || strength > MAX_STRENGTH) {
            throw new IllegalArgumentException("a strength is 1 to 20");
        }
        if (war.troopCount >= MAX_TROOPS || war.troopIn(cell) != NONE) {
            throw new IllegalStateException("there is no place for the troop");
        }
        history.save(war);
        return war.recruit(side, cell, strength);
    }

    // ---- orders and turns

    public int order(int troop, int cell) throws IndexOutOfBoundsException, IllegalStateException {
        needTroop(troop);
        needCell(cell);
        if (couriers.refusal(war, troop) != 0) {
            throw new IllegalStateException("the order can't be given");
        }
        history.save(war);
        return sendOrder(troop, cell);
    }

    public int pass(int turns) throws IllegalArgumentException, IllegalStateException {
        needTurns(turns);
        if (war.turn + turns > LAST_TURN) {
            throw new IllegalStateException("the war ends with the turn 1000");
        }
        history.save(war);
        int before = war.lostByBoth();
        marshal.play(war, turns);
        return war.lostByBoth() - before;
    }

    // ---- texts

    public int append(int code) throws IllegalArgumentException, IllegalStateException {
        if (code < FIRST_SIGN || code > LAST_SIGN) {
            throw new IllegalArgumentException("a character code is 33 to 126");
        }
        if (text.length >= MAX_TEXT) {
            throw new IllegalStateException("the buffer is full");
        }
        return text.add(code);
    }

    public int clearBuffer() {
        int length = text.length;
        text.length = 0;
        return length;
    }

    public int firstError() {
        return text.firstFault();
    }

    public int load() throws IllegalArgumentException {
        if (!text.isComplete()) {
            throw new IllegalArgumentException("the buffer is not a complete text");
        }
        history.save(war);
        int written = text.readOrders();
        int given = 0;
        while (given < written && canSend(text.troops[given])) {
            sendOrder(text.troops[given], text.goals[given]);
            given++;
        }
        text.length = 0;
        return given;
    }

    public int undo() throws IllegalStateException {
        if (history.size == 0) {
            throw new IllegalStateException("there is no saved state");
        }
        history.restore(war);
        return history.size;
    }

    // ---- what there is

    public int cell(int cell, int what) throws IndexOutOfBoundsException, IllegalArgumentException {
        needCell(cell);
        needFigure(what, CELL_FIGURES);
        return war.cellFigure(cell, what);
    }

    public int troop(int troop, int what) throws IndexOutOfBoundsException, IllegalArgumentException {
        needTroop(troop);
        needFigure(what, TROOP_FIGURES);
        return war.troopFigure(troop, what);
    }

    public int underWay(int place, int what) throws IndexOutOfBoundsException, IllegalArgumentException {
        if (place < 0 || place >= war.orderCount) {
            throw new IndexOutOfBoundsException("there is no such order");
        }
        needFigure(what, ORDER_FIGURES);
        return war.orders[place].figure(what);
    }

    public int count(int what) throws IllegalArgumentException {
        needFigure(what, COUNT_FIGURES);
        return countNow(what);
    }

    // ---- what would be; nothing is changed

    public boolean sees(int one, int other) throws IndexOutOfBoundsException {
        needCell(one);
        needCell(other);
        return war.terrain.inSight(one, other);
    }

    public int distance(int from, int to) throws IndexOutOfBoundsException {
        needCell(from);
        needCell(to);
        return couriers.stepsBetween(war.terrain, from, to);
    }

    public int why(int troop) throws IndexOutOfBoundsException {
        needTroop(troop);
        return couriers.refusal(war, troop);
    }

    public int bestPost(int side) throws IndexOutOfBoundsException {
        needSide(side);
        return couriers.bestCell(war, side);
    }

    public int ifPassed(int turns, int what) throws IllegalArgumentException {
        needTurns(turns);
        if (what != 2 && what != 3 && (what < 6 || what > 10)) {
            throw new IllegalArgumentException("that number can't be looked ahead");
        }
        trial.copyFrom(war);
        marshal.play(trial, turns);
        return trial.figure(what);
    }

    public int arrivesIn(int troop) throws IndexOutOfBoundsException {
        needTroop(troop);
        trial.copyFrom(war);
        Troop marching = trial.troops[troop];
        for (int turns = 0; turns <= MAX_ARRIVAL; turns++) {
            if (marching.condition == GONE) {
                return NONE;
            }
            if (marching.cell == marching.goal) {
                return turns;
            }
            marshal.play(trial, 1);
        }
        return NONE;
    }

    public double strengthLeft() {
        return war.shareLeft();
    }

    public long digest() {
        long hash = mixCounts(HASH_START);
        hash = mixCells(hash);
        hash = mixTroops(hash);
        hash = mixOrders(hash);
        for (int side = 0; side < SIDES; side++) {
            hash = mix(hash, war.terrain.cellsInSight(war.generals[side]));
        }
        hash = mixAhead(hash);
        hash = mix(hash, bitsOf(war.shareLeft()));
        return mixText(hash);
    }

    // ---- what the calls above share

    private static void needCell(int cell) {
        if (cell < 0 || cell >= CELLS) {
            throw new IndexOutOfBoundsException("there is no such cell");
        }
    }

    private static void needSide(int side) {
        if (side < 0 || side >= SIDES) {
            throw new IndexOutOfBoundsException("there is no such side");
        }
    }

    private void needTroop(int troop) {
        if (troop < 0 || troop >= war.troopCount) {
            throw new IndexOutOfBoundsException("there is no such troop");
        }
    }

    private static void needFigure(int what, int figures) {
        if (what < 0 || what >= figures) {
            throw new IllegalArgumentException("there is no such property");
        }
    }

    private static void needTurns(int turns) {
        if (turns < 1 || turns > MAX_PASS) {
            throw new IllegalArgumentException("1 to 50 turns can pass");
        }
    }

    private boolean canSend(int troop) {
        return troop < war.troopCount && couriers.refusal(war, troop) == 0;
    }

    private int sendOrder(int troop, int goal) {
        int turns = couriers.turnsTo(war, troop);
        war.enqueue(troop, goal, war.turn + turns);
        return turns;
    }

    private int countNow(int what) {
        return what == SAVED_STATES ? history.size : war.figure(what);
    }

    private static long mix(long hash, long value) {
        return 31L * hash + value;
    }

    private long mixCounts(long start) {
        long hash = start;
        for (int what = 0; what < COUNT_FIGURES; what++) {
            hash = mix(hash, countNow(what));
        }
        return hash;
    }

    private long mixCells(long start) {
        long hash = start;
        for (int cell = 0; cell < CELLS; cell++) {
            for (int what = 0; what <= 2; what++) {
                hash = mix(hash, war.cellFigure(cell, what));
            }
        }
        return hash;
    }

    private long mixTroops(long start) {
        long hash = start;
        for (int troop = 0; troop < war.troopCount; troop++) {
            for (int what = 0; what < TROOP_FIGURES; what++) {
                hash = mix(hash, war.troopFigure(troop, what));
            }
            hash = mix(hash, couriers.refusal(war, troop));
        }
        return hash;
    }

    private long mixOrders(long start) {
        long hash = start;
        for (int place = 0; place < war.orderCount; place++) {
            for (int what = 0; what < ORDER_FIGURES; what++) {
                hash = mix(hash, war.orders[place].figure(what));
            }
        }
        return hash;
    }

    private long mixAhead(long start) {
        trial.copyFrom(war);
        marshal.play(trial, DIGEST_AHEAD);
        long hash = mix(start, trial.figure(2));
        hash = mix(hash, trial.figure(3));
        for (int what = 6; what <= 10; what++) {
            hash = mix(hash, trial.figure(what));
        }
        return hash;
    }

    private long mixText(long start) {
        long hash = mix(start, text.length);
        for (int i = 0; i < text.length; i++) {
            hash = mix(hash, text.codes[i]);
        }
        return hash;
    }

    /**
     * The bits of a share from 0.0 to 1.0. They are told by arithmetic, as the library's own call is not among
     * those that the program may use; doubling is exact, so nothing is lost.
     */
    private static long bitsOf(double share) {
        if (!(share > 0.0)) {
            return 0L;
        }
        double significand = share;
        long exponent = 1023L;
        while (significand < 1.0 && exponent > 1L) {
            significand = significand * 2.0;
            exponent--;
        }
        long fraction = (long) ((significand - 1.0) * 4503599627370496.0);
        return (exponent << 52) | fraction;
    }

    private static int neighbour(int cell, int direction) {
        switch (direction) {
            case 0:
                return cell >= COLUMNS ? cell - COLUMNS : NONE;
            case 1:
                return cell % COLUMNS < COLUMNS - 1 ? cell + 1 : NONE;
            case 2:
                return cell < CELLS - COLUMNS ? cell + COLUMNS : NONE;
            default:
                return cell % COLUMNS > 0 ? cell - 1 : NONE;
        }
    }

    /** The heights of the field, and what follows from them alone: steps and sight. */
    private static final class Terrain {
        final int[] heights = new int[CELLS];

        void copyFrom(Terrain other) {
            System.arraycopy(other.heights, 0, heights, 0, CELLS);
        }

        int level(int from, int to, int height) {
            int changed = 0;
            for (int cell = from; cell <= to; cell++) {
                boolean inBlock = cell % COLUMNS >= from % COLUMNS && cell % COLUMNS <= to % COLUMNS;
                if (inBlock && heights[cell] != height) {
                    heights[cell] = height;
                    changed++;
                }
            }
            return changed;
        }

        boolean canStep(int from, int to) {
            int climb = heights[to] - heights[from];
            return climb <= MAX_CLIMB && climb >= -MAX_CLIMB;
        }

        int exits(int cell) {
            int exits = 0;
            for (int direction = 0; direction < DIRECTIONS; direction++) {
                int next = neighbour(cell, direction);
                if (next != NONE && canStep(cell, next)) {
                    exits++;
                }
            }
            return exits;
        }

        /** The line between two cells is the same there and back, so the lower number need not come first. */
        boolean inSight(int a, int b) {
            int across = b % COLUMNS - a % COLUMNS;
            int down = b / COLUMNS - a / COLUMNS;
            int n = Math.max(Math.abs(across), Math.abs(down));
            for (int k = 1; k < n; k++) {
                int column = between(a % COLUMNS, across, k, n);
                int row = between(a / COLUMNS, down, k, n);
                int line = (heights[a] + 1) * (n - k) + (heights[b] + 1) * k;
                if (heights[COLUMNS * row + column] * n > line) {
                    return false;
                }
            }
            return true;
        }

        private static int between(int start, int span, int k, int n) {
            return n < 1 ? start : (2 * (n * start + k * span) + n) / (2 * n);
        }

        int cellsInSight(int cell) {
            int seen = 0;
            for (int other = 0; other < CELLS; other++) {
                if (inSight(cell, other)) {
                    seen++;
                }
            }
            return seen;
        }
    }

    /** Least ways over the field, told by how many steps each cell is away from a goal. */
    private static final class Paths {
        final int[] steps = new int[CELLS];
        final int[] queue = new int[CELLS];
        /** 1 for a cell that no way leads over. */
        final int[] taken = new int[CELLS];

        void openAll() {
            Arrays.fill(taken, 0);
        }

        /**
         * Spreads from the goal, taken or not, until the start is reached: what lies farther off is on no least
         * way from there. With the start NONE it spreads as far as there are steps.
         */
        void spread(Terrain terrain, int goal, int start) {
            Arrays.fill(steps, NONE);
            steps[goal] = 0;
            queue[0] = goal;
            int filled = 1;
            for (int next = 0; next < filled && (start == NONE || steps[start] == NONE); next++) {
                int from = queue[next];
                for (int direction = 0; direction < DIRECTIONS; direction++) {
                    int to = neighbour(from, direction);
                    if (to != NONE && filled < CELLS && isOpen(to) && terrain.canStep(from, to)) {
                        steps[to] = steps[from] + 1;
                        queue[filled] = to;
                        filled++;
                    }
                }
            }
        }

        private boolean isOpen(int cell) {
            return steps[cell] == NONE && taken[cell] == 0;
        }

        /** The first neighbour, in their order, that is free and one step nearer to the goal of the latest spread. */
        int freeStepNearer(Terrain terrain, int cell) {
            for (int direction = 0; direction < DIRECTIONS && steps[cell] > 0; direction++) {
                int next = neighbour(cell, direction);
                if (next != NONE && steps[next] == steps[cell] - 1 && taken[next] == 0
                        && terrain.canStep(cell, next)) {
                    return next;
                }
            }
            return NONE;
        }
    }

    private static final class Troop {
        int side;
        int cell;
        int strength;
        int goal;
        int condition;
        int strengthAtFirst;
        int lostInTurn;
        int ordersCome;

        void muster(int itsSide, int itsCell, int itsStrength) {
            side = itsSide;
            cell = itsCell;
            strength = itsStrength;
            goal = itsCell;
            condition = STEADY;
            strengthAtFirst = itsStrength;
            lostInTurn = 0;
            ordersCome = 0;
        }

        void copyFrom(Troop other) {
            side = other.side;
            cell = other.cell;
            strength = other.strength;
            goal = other.goal;
            condition = other.condition;
            strengthAtFirst = other.strengthAtFirst;
            lostInTurn = other.lostInTurn;
            ordersCome = other.ordersCome;
        }

        boolean isEnemyOf(Troop other) {
            return condition != GONE && side != other.side;
        }
    }

    private static final class Order {
        int number;
        int troop;
        int goal;
        int due;

        void write(int itsNumber, int itsTroop, int itsGoal, int itsDue) {
            number = itsNumber;
            troop = itsTroop;
            goal = itsGoal;
            due = itsDue;
        }

        void copyFrom(Order other) {
            write(other.number, other.troop, other.goal, other.due);
        }

        int figure(int what) {
            switch (what) {
                case 0:
                    return number;
                case 1:
                    return troop;
                case 2:
                    return goal;
                default:
                    return due;
            }
        }
    }

    /** All that undo brings back. */
    private static final class War {
        final Terrain terrain = new Terrain();
        final int[] generals = new int[SIDES];
        final Troop[] troops = new Troop[MAX_TROOPS];
        int troopCount;
        /** By the turn in which they come, then by their numbers. */
        final Order[] orders = new Order[MAX_UNDER_WAY];
        int orderCount;
        int turn;
        int ordersGiven;
        int ordersLost;
        final int[] lostBySide = new int[SIDES];

        War() {
            generals[1] = CELLS - 1;
            for (int i = 0; i < MAX_TROOPS; i++) {
                troops[i] = new Troop();
            }
            for (int i = 0; i < MAX_UNDER_WAY; i++) {
                orders[i] = new Order();
            }
        }

        void copyFrom(War other) {
            terrain.copyFrom(other.terrain);
            for (int side = 0; side < SIDES; side++) {
                generals[side] = other.generals[side];
                lostBySide[side] = other.lostBySide[side];
            }
            troopCount = other.troopCount;
            for (int i = 0; i < troopCount; i++) {
                troops[i].copyFrom(other.troops[i]);
            }
            orderCount = other.orderCount;
            for (int i = 0; i < orderCount; i++) {
                orders[i].copyFrom(other.orders[i]);
            }
            turn = other.turn;
            ordersGiven = other.ordersGiven;
            ordersLost = other.ordersLost;
        }

        int recruit(int side, int cell, int strength) {
            int number = troopCount;
            troops[number].muster(side, cell, strength);
            troopCount++;
            return number;
        }

        /** The newest order has the highest number, so it goes behind all that come in the same turn. */
        void enqueue(int troop, int goal, int due) {
            int place = orderCount;
            while (place > 0 && orders[place - 1].due > due) {
                orders[place].copyFrom(orders[place - 1]);
                place--;
            }
            orders[place].write(ordersGiven, troop, goal, due);
            orderCount++;
            ordersGiven++;
        }

        void dropFirstOrders(int dropped) {
            for (int i = dropped; i < orderCount; i++) {
                orders[i - dropped].copyFrom(orders[i]);
            }
            orderCount -= dropped;
        }

        int troopIn(int cell) {
            for (int i = 0; i < troopCount; i++) {
                if (troops[i].condition != GONE && troops[i].cell == cell) {
                    return i;
                }
            }
            return NONE;
        }

        int cellFigure(int cell, int what) {
            switch (what) {
                case 0:
                    return terrain.heights[cell];
                case 1:
                    return troopIn(cell);
                case 2:
                    return terrain.exits(cell);
                default:
                    return terrain.cellsInSight(cell);
            }
        }

        int troopFigure(int number, int what) {
            Troop troop = troops[number];
            switch (what) {
                case 0:
                    return troop.side;
                case 1:
                    return troop.cell;
                case 2:
                    return troop.strength;
                case 3:
                    return troop.goal;
                case 4:
                    return troop.condition;
                case 5:
                    return troop.strengthAtFirst;
                case 6:
                    return troop.lostInTurn;
                case 7:
                    return ordersFor(number);
                default:
                    return troop.ordersCome;
            }
        }

        /** The numbers of the method count but the saved states, which are no part of a state. */
        int figure(int what) {
            switch (what) {
                case 0:
                    return turn;
                case 1:
                    return troopCount;
                case 2:
                    return troopCount - troopsThatAre(GONE);
                case 3:
                    return troopsThatAre(ROUTED);
                case 4:
                    return ordersGiven;
                case 5:
                    return orderCount;
                case 6:
                    return ordersLost;
                case 7:
                    return lostBySide[0];
                case 8:
                    return lostBySide[1];
                case 9:
                    return strengthOf(0);
                case 10:
                    return strengthOf(1);
                case 11:
                    return generals[0];
                default:
                    return generals[1];
            }
        }

        int lostByBoth() {
            return lostBySide[0] + lostBySide[1];
        }

        double shareLeft() {
            int atFirst = 0;
            for (int i = 0; i < troopCount; i++) {
                atFirst += troops[i].strengthAtFirst;
            }
            return atFirst < 1 ? 1.0 : (double) (strengthOf(0) + strengthOf(1)) / (double) atFirst;
        }

        private int ordersFor(int troop) {
            int found = 0;
            for (int i = 0; i < orderCount; i++) {
                if (orders[i].troop == troop) {
                    found++;
                }
            }
            return found;
        }

        private int troopsThatAre(int condition) {
            int found = 0;
            for (int i = 0; i < troopCount; i++) {
                if (troops[i].condition == condition) {
                    found++;
                }
            }
            return found;
        }

        private int strengthOf(int side) {
            int sum = 0;
            for (int i = 0; i < troopCount; i++) {
                if (troops[i].side == side) {
                    sum += troops[i].strength;
                }
            }
            return sum;
        }
    }

    /** What it takes to bring an order to a troop. */
    private static final class Couriers {
        /** Never taken anywhere, as couriers pass by whoever stands there. */
        final Paths paths = new Paths();
        final int[] sums = new int[CELLS];

        int stepsBetween(Terrain terrain, int from, int to) {
            paths.spread(terrain, to, from);
            return paths.steps[from];
        }

        /** NONE if there is no way and no sight. */
        int turnsTo(War war, int number) {
            Troop troop = war.troops[number];
            int general = war.generals[troop.side];
            if (war.terrain.inSight(general, troop.cell)) {
                return 1;
            }
            return ridingTurns(stepsBetween(war.terrain, general, troop.cell));
        }

        int refusal(War war, int number) {
            if (war.troops[number].condition == GONE) {
                return IS_GONE;
            }
            if (turnsTo(war, number) == NONE) {
                return NO_WAY;
            }
            return war.orderCount >= MAX_UNDER_WAY ? TOO_MANY_ORDERS : 0;
        }

        int bestCell(War war, int side) {
            Arrays.fill(sums, 0);
            for (int i = 0; i < war.troopCount; i++) {
                if (war.troops[i].side == side && war.troops[i].condition != GONE) {
                    addTurns(war.terrain, war.troops[i].cell);
                }
            }
            int best = 0;
            for (int cell = 1; cell < CELLS; cell++) {
                if (sums[cell] < sums[best]) {
                    best = cell;
                }
            }
            return best;
        }

        /** One spread from the troop tells the way from every cell, as steps lead as well there as back. */
        private void addTurns(Terrain terrain, int troopCell) {
            paths.spread(terrain, troopCell, NONE);
            for (int cell = 0; cell < CELLS; cell++) {
                int turns = terrain.inSight(cell, troopCell) ? 1 : ridingTurns(paths.steps[cell]);
                sums[cell] += turns == NONE ? UNREACHED_TURNS : turns;
            }
        }

        private static int ridingTurns(int steps) {
            return steps == NONE ? NONE : Math.max(1, (steps + 2) / 3);
        }
    }

    /** Lets turns pass in a war. */
    private static final class Marshal {
        final Paths paths = new Paths();

        void play(War war, int turns) {
            for (int i = 0; i < turns; i++) {
                war.turn++;
                bringOrders(war);
                march(war);
                fight(war);
                for (int t = 0; t < war.troopCount; t++) {
                    steadyOrRout(war, war.troops[t]);
                }
            }
        }

        private static void bringOrders(War war) {
            int come = 0;
            while (come < war.orderCount && war.orders[come].due <= war.turn) {
                Order order = war.orders[come];
                Troop troop = war.troops[order.troop];
                if (troop.condition == STEADY) {
                    troop.goal = order.goal;
                    troop.ordersCome++;
                } else {
                    war.ordersLost++;
                }
                come++;
            }
            war.dropFirstOrders(come);
        }

        private void march(War war) {
            for (int t = 0; t < war.troopCount; t++) {
                Troop troop = war.troops[t];
                if (troop.condition == STEADY && troop.cell != troop.goal) {
                    stepToGoal(war, t);
                } else if (troop.condition == ROUTED) {
                    stepBack(war, troop);
                }
            }
        }

        private void stepToGoal(War war, int number) {
            Troop troop = war.troops[number];
            paths.openAll();
            for (int t = 0; t < war.troopCount; t++) {
                if (t != number && war.troops[t].condition != GONE) {
                    paths.taken[war.troops[t].cell] = 1;
                }
            }
            paths.spread(war.terrain, troop.goal, troop.cell);
            int next = paths.freeStepNearer(war.terrain, troop.cell);
            if (next != NONE) {
                troop.cell = next;
            }
        }

        private static void stepBack(War war, Troop troop) {
            int next = neighbour(troop.cell, troop.side == 0 ? 3 : 1);
            if (next != NONE && war.terrain.canStep(troop.cell, next) && war.troopIn(next) == NONE) {
                troop.cell = next;
            }
        }

        /** All losses are told before the first one is taken, as all troops fight at once. */
        private static void fight(War war) {
            for (int t = 0; t < war.troopCount; t++) {
                war.troops[t].lostInTurn = lossOf(war, war.troops[t]);
            }
            for (int t = 0; t < war.troopCount; t++) {
                Troop troop = war.troops[t];
                troop.strength -= troop.lostInTurn;
                war.lostBySide[troop.side] += troop.lostInTurn;
                if (troop.strength == 0) {
                    troop.condition = GONE;
                }
            }
        }

        /** Nothing for a troop that is gone, as it has no strength to lose. */
        private static int lossOf(War war, Troop troop) {
            int loss = 0;
            for (int direction = 0; direction < DIRECTIONS; direction++) {
                int beside = neighbour(troop.cell, direction);
                int number = beside == NONE ? NONE : war.troopIn(beside);
                if (number != NONE && war.troops[number].isEnemyOf(troop)) {
                    loss += war.terrain.heights[beside] > war.terrain.heights[troop.cell] ? 2 : 1;
                }
            }
            return Math.min(loss, troop.strength);
        }

        private static void steadyOrRout(War war, Troop troop) {
            if (troop.condition == STEADY && troop.lostInTurn > 0
                    && 2 * troop.strength <= troop.strengthAtFirst) {
                troop.condition = ROUTED;
            } else if (troop.condition == ROUTED && troop.lostInTurn == 0 && !seesEnemy(war, troop)) {
                troop.condition = STEADY;
                troop.goal = troop.cell;
            }
        }

        private static boolean seesEnemy(War war, Troop troop) {
            for (int t = 0; t < war.troopCount; t++) {
                Troop other = war.troops[t];
                if (other.isEnemyOf(troop) && war.terrain.inSight(troop.cell, other.cell)) {
                    return true;
                }
            }
            return false;
        }
    }

    /** The saved states, the oldest one first. */
    private static final class History {
        final War[] saved = new War[MAX_SAVED];
        int size;

        History() {
            for (int i = 0; i < MAX_SAVED; i++) {
                saved[i] = new War();
            }
        }

        void save(War war) {
            if (size == MAX_SAVED) {
                dropOldest();
            }
            saved[size].copyFrom(war);
            size++;
        }

        void restore(War war) {
            size--;
            war.copyFrom(saved[size]);
        }

        private void dropOldest() {
            War oldest = saved[0];
            for (int i = 1; i < MAX_SAVED; i++) {
                saved[i - 1] = saved[i];
            }
            // Its room is used again for the next state, so that nothing new is made.
            saved[MAX_SAVED - 1] = oldest;
            size--;
        }
    }

    /** The buffer. A stage tells what has been read last, and so what may follow. */
    private static final class Text {
        private static final int START = 0;
        private static final int TROOP_ONE = 1;
        private static final int TROOP_READ = 2;
        private static final int ARROW = 3;
        private static final int COLUMN_ONE = 4;
        private static final int COLUMN_READ = 5;
        private static final int COMMA = 6;
        private static final int ROW_READ = 7;

        final int[] codes = new int[MAX_TEXT];
        int length;
        final int[] troops = new int[MAX_TEXT_ORDERS];
        final int[] goals = new int[MAX_TEXT_ORDERS];

        int add(int code) {
            codes[length] = code;
            length++;
            return length;
        }

        int firstFault() {
            int stage = START;
            for (int i = 0; i < length; i++) {
                stage = stageAfter(stage, codes[i]);
                if (stage == NONE) {
                    return i;
                }
            }
            return length;
        }

        boolean isComplete() {
            int stage = START;
            for (int i = 0; i < length; i++) {
                stage = stageAfter(stage, codes[i]);
            }
            return stage == ROW_READ;
        }

        /** Reads the orders of a complete text into troops and goals, and tells how many there are. */
        int readOrders() {
            int orders = 0;
            int number = 0;
            int column = 0;
            for (int i = 0; i < length && orders < MAX_TEXT_ORDERS; i++) {
                int code = codes[i];
                if (isDigit(code, '9')) {
                    number = 10 * number + code - '0';
                } else if (code == '>') {
                    troops[orders] = number;
                    number = 0;
                } else if (code == ',') {
                    column = number;
                    number = 0;
                }
                if (code == ';' || i == length - 1) {
                    goals[orders] = COLUMNS * number + column;
                    number = 0;
                    orders++;
                }
            }
            return orders;
        }

        private static boolean isDigit(int code, int last) {
            return code >= '0' && code <= last;
        }

        /** NONE if the character is a syntax error there, or one came before it. */
        private static int stageAfter(int stage, int code) {
            switch (stage) {
                case START:
                    return afterDigit(code, TROOP_ONE, TROOP_READ);
                case TROOP_ONE:
                    return isDigit(code, '1') ? TROOP_READ : afterSign(code, '>', ARROW);
                case TROOP_READ:
                    return afterSign(code, '>', ARROW);
                case ARROW:
                    return afterDigit(code, COLUMN_ONE, COLUMN_READ);
                case COLUMN_ONE:
                    return isDigit(code, '1') ? COLUMN_READ : afterSign(code, ',', COMMA);
                case COLUMN_READ:
                    return afterSign(code, ',', COMMA);
                case COMMA:
                    return isDigit(code, '7') ? ROW_READ : NONE;
                case ROW_READ:
                    return afterSign(code, ';', START);
                default:
                    return NONE;
            }
        }

        /** After a 1 a second digit may follow, as in 10 and 11. */
        private static int afterDigit(int code, int afterOne, int afterOther) {
            if (!isDigit(code, '9')) {
                return NONE;
            }
            return code == '1' ? afterOne : afterOther;
        }

        private static int afterSign(int code, int sign, int next) {
            return code == sign ? next : NONE;
        }
    }
}
