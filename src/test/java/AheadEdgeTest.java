import java.util.function.Supplier;

/** Promises 19 to 21 and 23, sentence by sentence: the first and the last post, no turn and the most. */
public final class AheadEdgeTest {
    private static final Class<IndexOutOfBoundsException> INDEX = IndexOutOfBoundsException.class;
    private static final Class<IllegalArgumentException> ARGUMENT = IllegalArgumentException.class;
    private static final int[] AHEAD = {2, 3, 6, 7, 8, 9, 10};

    public static void main(String[] args) {
        Check.all(AheadEdgeTest.class);
    }

    // ---- promise 19

    @Says("Throws `IndexOutOfBoundsException` if there is no such side")
    static void promise19SideBeyond() {
        CourierWar war = new CourierWar();
        Check.refusedWith(war, "side", INDEX, side -> war.bestPost(side),
                -1, 2, Integer.MIN_VALUE, Integer.MAX_VALUE);
    }

    @Says("of several the lowest one")
    static void promise19NoTroops() {
        CourierWar war = new CourierWar();
        Check.same("of the side 0", war.bestPost(0), 0);
        Check.same("of the side 1", war.bestPost(1), 0);
        war.shape(0, 0, 9);
        war.moveGeneral(0, 50);
        Check.same("wherever the general is", war.bestPost(0), 0);
    }

    @Says("of several the lowest one")
    static void promise19AllAlike() {
        CourierWar war = new CourierWar();
        war.addTroop(1, 95, 5);
        war.addTroop(1, 90, 5);
        Check.same("all see both", war.bestPost(1), 0);
    }

    @Says("of several the lowest one")
    static void promise19LowestOfFew() {
        CourierWar war = new CourierWar();
        war.shape(0, 95, 9);
        war.shape(50, 50, 0);
        war.addTroop(0, 50, 5);
        Check.same("nine see into the pit", war.bestPost(0), 37);
    }

    @Says("the cell from which the sum of the turns that an order to each troop of the side")
    static void promise19LastCell() {
        CourierWar war = new CourierWar();
        war.shape(42, 82, 9);
        war.addTroop(0, 90, 5);
        war.addTroop(0, 59, 5);
        Check.same("the only one that sees both", war.bestPost(0), 95);
        Check.same("of the other side", war.bestPost(1), 0);
    }

    @Says("each troop of the side that is not gone")
    static void promise19GoneOnesDoNotMatter() {
        CourierWar war = Scenes.gone();
        war.shape(1, 85, 9);
        Check.same("the gone one's side", war.bestPost(0), 0);
        Check.same("the other one's side", war.bestPost(1), 1);
    }

    @Says("each troop of the side that is not gone")
    static void promise19RoutedOnesMatter() {
        CourierWar war = Scenes.routed(0, 27, 28);
        war.shape(1, 85, 9);
        Check.same("the routed one's side", war.bestPost(0), 1);
    }

    @Says("how many orders are under way does not matter")
    static void promise19ThirtyUnderWay() {
        CourierWar war = Scenes.ordered(30);
        Check.same("why", war.why(0), 3);
        Check.same("on the ridge", war.bestPost(0), 1);
    }

    /** The way is cut at 24: from 0 the way leads to few cells, and from 36 to all others. */
    private static CourierWar cut(int farTroop) {
        CourierWar war = Scenes.winding();
        war.shape(24, 24, 9);
        war.addTroop(0, 0, 5);
        war.addTroop(0, 36, 5);
        war.addTroop(0, farTroop, 5);
        return war;
    }

    @Says("those to which none can be given count 20 turns")
    static void promise19TwentyForNone() {
        Check.same("with 21 it were 3", cut(47).bestPost(0), 24);
        Check.same("with 19 it were 24", cut(83).bestPost(0), 3);
        for (int farTroop : new int[] {47, 83, 11, 90}) {
            asToldByTheTurns("cut, with " + farTroop, () -> cut(farTroop));
        }
    }

    @Says("otherwise (distance + 2) / 3 turns, at least 1, by the distance between both cells")
    static void promise19CouriersAndSignals() {
        CourierWar near = Scenes.ridge();
        near.addTroop(0, 2, 5);
        Check.same("a courier of 1 turn is as good as a signal", near.bestPost(0), 0);
        CourierWar far = Scenes.ridge();
        far.addTroop(0, 4, 5);
        Check.same("a courier of 2 turns is not", far.bestPost(0), 1);
        for (int other : new int[] {11, 50, 83, 95}) {
            asToldByTheTurns("winding, with " + other, () -> {
                CourierWar war = Scenes.winding();
                war.addTroop(0, 0, 5);
                war.addTroop(0, other, 5);
                return war;
            });
        }
    }

    @Says("each troop of the side that is not gone")
    static void promise19AsTheTroopStandsNow() {
        CourierWar war = new CourierWar();
        war.addTroop(0, 90, 5);
        war.order(0, 0);
        war.pass(1);
        Check.same("on its way", war.troop(0, 1), 78);
        war.shape(5, 89, 9);
        Check.same("where it is seen, not its goal", war.bestPost(0), 6);
    }

    /** The best post is the one that the turns tell, from each cell to each troop of the side 0. */
    private static void asToldByTheTurns(String what, Supplier<CourierWar> made) {
        CourierWar ways = made.get();
        CourierWar sight = made.get();
        int troops = ways.count(1);
        int best = -1;
        int least = Integer.MAX_VALUE;
        for (int cell = 0; cell < 96; cell++) {
            int sum = 0;
            for (int troop = 0; troop < troops; troop++) {
                int at = cellOf(made, troop);
                int steps = ways.distance(cell, at);
                sum += sight.sees(cell, at) ? 1 : steps == CourierWar.NONE ? 20 : Math.max(1, (steps + 2) / 3);
            }
            if (sum < least) {
                least = sum;
                best = cell;
            }
        }
        Check.same("the best post, " + what, made.get().bestPost(0), best);
    }

    private static int cellOf(Supplier<CourierWar> made, int troop) {
        return made.get().troop(troop, 1);
    }

    @Says("generals do not fight, and share cells with others")
    static void promise19OnATakenCell() {
        for (int side = 0; side <= 1; side++) {
            CourierWar war = new CourierWar();
            war.shape(0, 95, 9);
            war.shape(50, 50, 0);
            war.addTroop(0, 50, 5);
            war.addTroop(side, 37, 5);
            Check.same("where one of the side " + side + " stands", war.bestPost(0), 37);
        }
    }

    @Says("the least number of steps from one to the other, whoever stands there")
    static void promise19PastWhoeverStandsThere() {
        CourierWar war = Scenes.winding();
        war.addTroop(0, 0, 5);
        war.addTroop(0, 11, 5);
        int best = war.bestPost(0);
        for (int cell : new int[] {24, 39, 53, 68, 70, 47}) {
            war.addTroop(1, cell, 5);
        }
        Check.same("past enemies", war.bestPost(0), best);
    }

    @Says("what would be; nothing is changed")
    static void promise19ChangesNothing() {
        CourierWar war = cut(47);
        long before = war.digest();
        war.bestPost(0);
        Check.same("the state", war.digest(), before);
    }

    // ---- promise 20

    @Says("`turns`: 1 to 50 (the limit of 1000 turns does not matter)")
    static void promise20OneAndFiftyTurns() {
        for (int turns : new int[] {1, 50}) {
            CourierWar war = Scenes.routed(0, 27, 28);
            war.addTroop(0, 29, 20);
            CourierWar passed = Scenes.routed(0, 27, 28);
            passed.addTroop(0, 29, 20);
            passed.pass(turns);
            for (int what : AHEAD) {
                Check.same(what + " after " + turns, war.ifPassed(turns, what), passed.count(what));
            }
        }
    }

    @Says("Throws `IllegalArgumentException` if turns or what is out of range")
    static void promise20TurnsBeyond() {
        CourierWar war = new CourierWar();
        Check.refusedWith(war, "turns", ARGUMENT, turns -> war.ifPassed(turns, 2),
                0, 51, -1, Integer.MIN_VALUE, Integer.MAX_VALUE);
    }

    @Says("`what`: 2, 3, or 6 to 10, as in the method count")
    static void promise20WhatBeyond() {
        CourierWar war = new CourierWar();
        Check.refusedWith(war, "what", ARGUMENT, what -> war.ifPassed(1, what),
                -1, 0, 1, 4, 5, 11, 12, 13, 14, Integer.MIN_VALUE, Integer.MAX_VALUE);
        Check.refused(war, "neither", ARGUMENT, () -> war.ifPassed(0, 1));
    }

    @Says("the limit of 1000 turns does not matter")
    static void promise20BeyondTheTurn1000() {
        CourierWar war = Scenes.atTurn(1000);
        war.addTroop(0, 40, 5);
        war.addTroop(1, 41, 20);
        Check.same("one turn", war.ifPassed(1, 7), 1);
        Check.same("fifty turns", war.ifPassed(50, 3), war.ifPassed(3, 3));
        Check.same("the turn", war.count(0), 1000);
    }

    @Says("Tells what would be after some turns without further orders.")
    static void promise20OrdersUnderWayCome() {
        CourierWar war = Scenes.routed(0, 27, 28);
        war.order(0, 0);
        war.order(1, 31);
        Check.same("one would be lost", war.ifPassed(1, 6), 1);
        Check.same("none is", war.count(6), 0);
        CourierWar meet = new CourierWar();
        meet.addTroop(0, 40, 20);
        meet.addTroop(1, 44, 20);
        meet.order(0, 43);
        Check.same("not met yet", meet.ifPassed(2, 7), 0);
        Check.same("met", meet.ifPassed(3, 7), 1);
    }

    @Says("`what`: 2, 3, or 6 to 10, as in the method count")
    static void promise20RoutsAndLosses() {
        CourierWar war = new CourierWar();
        war.addTroop(0, 40, 4);
        war.addTroop(1, 41, 1);
        war.addTroop(1, 39, 20);
        war.order(0, 95);
        war.order(0, 94);
        war.order(0, 40);
        int[] due = {2, 1, 0, 2, 2, 2, 19};
        for (int i = 0; i < AHEAD.length; i++) {
            Check.same(AHEAD[i] + " after one turn", war.ifPassed(1, AHEAD[i]), due[i]);
        }
        Check.same("none is routed now", war.count(3), 0);
    }

    @Says("what would be; nothing is changed")
    static void promise20ChangesNothing() {
        CourierWar war = Scenes.pit();
        war.order(0, 0);
        long before = war.digest();
        war.ifPassed(50, 9);
        Check.same("the state", war.digest(), before);
        Check.same("undone", war.undo(), 4);
        Check.same("without the order", war.count(4), 0);
    }

    // ---- promise 21

    @Says("Throws `IndexOutOfBoundsException` if there is no such troop")
    static void promise21TroopBeyond() {
        CourierWar war = new CourierWar();
        Check.refusedWith(war, "none of no", INDEX, troop -> war.arrivesIn(troop), 0, -1, 12);
        war.addTroop(0, 5, 5);
        Check.refusedWith(war, "troop", INDEX, troop -> war.arrivesIn(troop),
                1, -1, 12, Integer.MIN_VALUE, Integer.MAX_VALUE);
    }

    @Says("Returns the least number of turns, 0 to 60, after which it is at its goal (and not gone)")
    static void promise21NoTurn() {
        CourierWar war = new CourierWar();
        war.addTroop(0, 5, 5);
        Check.same("at its goal", war.arrivesIn(0), 0);
        war.order(0, 95);
        Check.same("as yet", war.arrivesIn(0), 0);
        Check.same("a routed one", Scenes.routed(0, 27, 28).arrivesIn(0), 0);
    }

    @Says("Returns the least number of turns, 0 to 60, after which it is at its goal (and not gone)")
    static void promise21SixtyTurns() {
        CourierWar war = Scenes.winding();
        war.addTroop(0, 0, 5);
        war.order(0, 11);
        war.pass(35);
        Check.same("35 of 95 steps are done", war.arrivesIn(0), 60);
        war.pass(50);
        war.pass(9);
        Check.same("94 are done", war.arrivesIn(0), 1);
    }

    @Says("Tells when a troop would be at its goal without further orders.")
    static void promise21BeyondTheTurn1000() {
        CourierWar war = Scenes.atTurn(999);
        war.addTroop(0, 0, 5);
        war.order(0, 5);
        Scenes.walks(war, 0, 1);
        Check.same("the turn", war.count(0), 1000);
        Check.same("four steps are left", war.arrivesIn(0), 4);
    }

    @Says("NONE if there is none")
    static void promise21SixtyOneTurns() {
        CourierWar war = Scenes.winding();
        war.addTroop(0, 0, 5);
        war.order(0, 11);
        war.pass(34);
        Check.same("34 of 95 steps are done", war.arrivesIn(0), CourierWar.NONE);
    }

    @Says("NONE if there is none")
    static void promise21NoWay() {
        CourierWar war = Scenes.sent(0, 2);
        war.pass(1);
        war.shape(2, 2, 9);
        Check.same("over a cliff", war.arrivesIn(0), CourierWar.NONE);
        war.shape(2, 2, 0);
        Check.same("without the cliff", war.arrivesIn(0), 1);
        war.addTroop(0, 2, 5);
        Check.same("to a taken goal", war.arrivesIn(0), CourierWar.NONE);
    }

    @Says("after which it is at its goal (and not gone)")
    static void promise21GoneAtItsGoal() {
        CourierWar war = Scenes.gone();
        Check.same("its cell", war.troop(0, 1), 50);
        Check.same("is its goal", war.troop(0, 3), 50);
        Check.same("but it is gone", war.arrivesIn(0), CourierWar.NONE);
    }

    @Says("after which it is at its goal (and not gone)")
    static void promise21GoneWhenItArrives() {
        CourierWar war = new CourierWar();
        war.addTroop(0, 40, 1);
        war.addTroop(1, 54, 20);
        war.order(0, 42);
        Scenes.walks(war, 0, 41);
        Check.same("beside its enemy it falls", war.arrivesIn(0), CourierWar.NONE);
        CourierWar later = new CourierWar();
        later.addTroop(0, 40, 3);
        later.addTroop(1, 54, 20);
        later.order(0, 42);
        Scenes.walks(later, 0, 41);
        Check.same("there it is before it falls", later.arrivesIn(0), 1);
    }

    @Says("Tells when a troop would be at its goal without further orders.")
    static void promise21OrderUnderWay() {
        CourierWar war = Scenes.sent(0, 11);
        war.pass(1);
        Check.same("ten steps are left", war.arrivesIn(0), 10);
        war.order(0, 2);
        Check.same("but an order is under way", war.arrivesIn(0), 1);
    }

    @Says("what would be; nothing is changed")
    static void promise21ChangesNothing() {
        CourierWar war = Scenes.sent(0, 11);
        war.pass(1);
        long before = war.digest();
        war.arrivesIn(0);
        Check.same("the state", war.digest(), before);
    }

    // ---- promise 23

    @Says("The hash starts at 2243.")
    static void promise23NewObject() {
        Digests.told("nothing there", CourierWar::new, "");
    }

    @Says("the length of the buffer and each of its character codes")
    static void promise23FullBuffer() {
        String buffer = "!~".repeat(30);
        Digests.told("sixty characters", () -> {
            CourierWar war = new CourierWar();
            Check.type(war, buffer);
            return war;
        }, buffer);
        Digests.told("one character", () -> {
            CourierWar war = new CourierWar();
            Check.type(war, "~");
            return war;
        }, "~");
    }

    @Says("for each troop its properties 0 to 8, and why; for each order under way its properties 0 to 3")
    static void promise23TwelveTroopsAndThirtyOrders() {
        Digests.told("as full as it can be", () -> {
            CourierWar war = Scenes.ridge();
            war.shape(30, 54, 7);
            for (int i = 0; i < 12; i++) {
                war.addTroop(i % 2, 7 * i + i % 3, 1 + i);
            }
            for (int i = 0; i < 30; i++) {
                war.order(i % 12, 3 * i);
            }
            Check.type(war, "0>0,0;");
            return war;
        }, "0>0,0;");
    }

    @Says("ifPassed with 10 turns for 2, 3, and 6 to 10")
    static void promise23BeyondTheTurn1000() {
        Digests.told("at the last turn", () -> {
            CourierWar war = Scenes.atTurn(1000);
            war.addTroop(0, 40, 20);
            war.addTroop(1, 41, 6);
            return war;
        }, "");
    }

    @Says("the bits of strengthLeft (as Double.doubleToLongBits)")
    static void promise23ShareNone() {
        Digests.told("all are gone", () -> {
            CourierWar war = new CourierWar();
            war.addTroop(0, 40, 1);
            war.addTroop(1, 41, 1);
            war.pass(1);
            return war;
        }, "");
    }

    @Says("the bits of strengthLeft (as Double.doubleToLongBits)")
    static void promise23ShareAll() {
        Digests.told("all is left", () -> {
            CourierWar war = new CourierWar();
            war.addTroop(0, 40, 20);
            return war;
        }, "");
    }

    /** Six pits in which twelve troops fight until 1 of 239 is left. */
    private static CourierWar pits() {
        CourierWar war = new CourierWar();
        war.shape(0, 95, 9);
        for (int i = 0; i < 6; i++) {
            int cell = 24 * (i / 2) + 6 * (i % 2);
            war.shape(cell, cell + 1, 0);
            war.addTroop(0, cell, 20);
            war.addTroop(1, cell + 1, i == 5 ? 19 : 20);
        }
        return war;
    }

    @Says("the bits of strengthLeft (as Double.doubleToLongBits)")
    static void promise23ShareLeast() {
        CourierWar war = pits();
        war.pass(25);
        Check.same("1 of 239", war.strengthLeft(), 1.0 / 239.0);
        for (int turns = 1; turns <= 20; turns++) {
            int passed = turns;
            Digests.told("after " + turns, () -> {
                CourierWar pits = pits();
                pits.pass(passed);
                return pits;
            }, "");
        }
    }

    @Says("the number of cells that the general of the side 0 and of the side 1 see")
    static void promise23GeneralsInPits() {
        Digests.told("nine cells and four", () -> {
            CourierWar war = new CourierWar();
            war.shape(0, 95, 9);
            war.shape(50, 50, 0);
            war.shape(11, 11, 0);
            war.moveGeneral(0, 50);
            war.moveGeneral(1, 11);
            return war;
        }, "");
    }
}
