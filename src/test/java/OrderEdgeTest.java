/** Promises 5, 14 and 18, sentence by sentence: how long orders take, how many there can be, and in which order. */
public final class OrderEdgeTest {
    private static final Class<IndexOutOfBoundsException> INDEX = IndexOutOfBoundsException.class;
    private static final Class<IllegalArgumentException> ARGUMENT = IllegalArgumentException.class;
    private static final Class<IllegalStateException> STATE = IllegalStateException.class;
    private static final int[] NO_CELL = {-1, 96, Integer.MIN_VALUE, Integer.MAX_VALUE};

    public static void main(String[] args) {
        Check.all(OrderEdgeTest.class);
    }

    /** The turns that an order of the general of the side 0 at the cell 0 takes to a troop over a ridge. */
    private static int turnsOverRidge(int cell) {
        CourierWar war = Scenes.ridge();
        war.addTroop(0, cell, 5);
        Check.holds("not seen", !war.sees(0, cell));
        return war.order(0, cell);
    }

    // ---- promise 5

    @Says("Throws `IndexOutOfBoundsException` if there is no such troop or cell")
    static void promise5NoTroops() {
        CourierWar war = new CourierWar();
        Check.refused(war, "troop 0", INDEX, () -> war.order(0, 0));
    }

    @Says("Throws `IndexOutOfBoundsException` if there is no such troop or cell")
    static void promise5TroopBeyond() {
        CourierWar war = new CourierWar();
        for (int i = 0; i < 11; i++) {
            war.addTroop(0, i, 5);
        }
        Check.refused(war, "troop 11 of eleven", INDEX, () -> war.order(11, 0));
        war.addTroop(0, 11, 5);
        Check.same("troop 11 of twelve", war.order(11, 0), 1);
        Check.same("troop 0 of twelve", war.order(0, 0), 1);
        Check.refusedWith(war, "troop", INDEX, troop -> war.order(troop, 0),
                -1, 12, Integer.MIN_VALUE, Integer.MAX_VALUE);
    }

    @Says("Throws `IndexOutOfBoundsException` if there is no such troop or cell")
    static void promise5CellBeyond() {
        CourierWar war = new CourierWar();
        war.addTroop(0, 5, 5);
        Check.refusedWith(war, "cell", INDEX, cell -> war.order(0, cell), NO_CELL);
    }

    @Says("any cell as its goal")
    static void promise5FirstAndLastCell() {
        CourierWar war = new CourierWar();
        war.addTroop(0, 5, 5);
        war.order(0, 0);
        war.order(0, 95);
        Check.same("the first one", war.underWay(0, 2), 0);
        Check.same("the last one", war.underWay(1, 2), 95);
    }

    @Says("any cell as its goal")
    static void promise5AnyGoal() {
        CourierWar war = Scenes.wall();
        war.addTroop(0, 0, 5);
        war.addTroop(1, 24, 5);
        Check.same("its own cell", war.order(0, 0), 1);
        Check.same("an enemy's cell", war.order(0, 24), 1);
        Check.same("a cell without a way", war.order(0, 95), 1);
        war.pass(1);
        Check.same("the goal", war.troop(0, 3), 95);
        Check.same("it stays", war.troop(0, 1), 0);
    }

    @Says("Throws `IllegalStateException` if the troop is gone")
    static void promise5Gone() {
        CourierWar war = Scenes.gone();
        Check.refused(war, "a gone troop", STATE, () -> war.order(0, 50));
        Check.same("none given", war.count(4), 0);
    }

    @Says("if it is routed or gone, the order is lost")
    static void promise5RoutedCanBeOrdered() {
        CourierWar war = Scenes.routed(0, 27, 28);
        Check.same("a routed troop", war.order(0, 0), 1);
        Check.same("given", war.count(4), 1);
    }

    @Says("if there is none, the order cannot be given")
    static void promise5NoWay() {
        CourierWar war = Scenes.wall();
        war.addTroop(0, 2, 5);
        Check.refused(war, "behind the wall", STATE, () -> war.order(0, 0));
        war.shape(85, 85, 2);
        Check.same("through a gap of 16 steps", war.order(0, 0), 6);
    }

    @Says("It takes 1 turn if the general's cell sees the cell of the troop")
    static void promise5SeenFarOff() {
        CourierWar war = new CourierWar();
        war.addTroop(0, 95, 5);
        war.addTroop(1, 0, 5);
        Check.same("from corner to corner", war.order(0, 0), 1);
        Check.same("and back", war.order(1, 0), 1);
    }

    @Says("It takes 1 turn if the general's cell sees the cell of the troop")
    static void promise5SeenWithoutAWay() {
        CourierWar war = Scenes.wall();
        war.addTroop(0, 13, 5);
        Check.same("no way", war.distance(0, 13), CourierWar.NONE);
        Check.same("on the wall", war.order(0, 0), 1);
    }

    @Says("It takes 1 turn if the general's cell sees the cell of the troop")
    static void promise5InTheGeneralsCell() {
        CourierWar war = new CourierWar();
        war.shape(0, 0, 9);
        war.addTroop(0, 0, 5);
        Check.same("a cell sees itself", war.order(0, 95), 1);
    }

    @Says("otherwise (distance + 2) / 3 turns, at least 1, by the distance between both cells")
    static void promise5CourierByThrees() {
        int[] cells = {2, 3, 4, 5, 6, 7, 8, 9, 10, 11};
        int[] turns = {1, 1, 2, 2, 2, 3, 3, 3, 4, 4};
        for (int i = 0; i < cells.length; i++) {
            Check.same("the distance " + cells[i], turnsOverRidge(cells[i]), turns[i]);
        }
    }

    @Says("otherwise (distance + 2) / 3 turns, at least 1, by the distance between both cells")
    static void promise5LongestCourier() {
        CourierWar war = Scenes.winding();
        war.addTroop(0, 11, 5);
        Check.same("95 steps", war.order(0, 0), 32);
        war.pass(31);
        Check.same("still under way", war.count(5), 1);
        war.pass(1);
        Check.same("come", war.troop(0, 8), 1);
    }

    @Says("the least number of steps from one to the other, whoever stands there")
    static void promise5PastWhoeverStandsThere() {
        CourierWar war = Scenes.winding();
        war.addTroop(0, 11, 5);
        war.addTroop(1, 24, 5);
        Check.same("past an enemy", war.order(0, 0), 32);
        war.addTroop(0, 60, 5);
        Check.same("and a friend", war.order(0, 0), 32);
        Check.same("nothing stands against it", war.why(0), 0);
    }

    @Says("it is given by the general of the troop's side")
    static void promise5BothGenerals() {
        CourierWar war = Scenes.ridge();
        war.addTroop(1, 0, 5);
        war.addTroop(0, 24, 5);
        Check.same("the side 1 at 95", war.order(0, 0), 6);
        Check.same("the side 0 at 0", war.order(1, 0), 1);
    }

    @Says("as it is when the order is given")
    static void promise5AsItIsWhenGiven() {
        CourierWar war = Scenes.ridge();
        war.addTroop(0, 4, 5);
        Check.same("4 steps", war.order(0, 9), 2);
        war.moveGeneral(0, 4);
        Check.same("still for the turn 2", war.underWay(0, 3), 2);
        Check.same("one more, by signal now", war.order(0, 8), 1);
        war.pass(1);
        Check.same("the second one came", war.troop(0, 3), 8);
        war.pass(1);
        Check.same("the first one came late", war.troop(0, 3), 9);
    }

    @Says("if the general's cell sees the cell of the troop as it is when the order is given")
    static void promise5OnItsWay() {
        CourierWar away = Scenes.ridge();
        away.addTroop(0, 0, 5);
        away.order(0, 3);
        away.pass(1);
        Check.same("on the ridge, its goal is behind it", away.order(0, 3), 1);
        CourierWar back = Scenes.ridge();
        back.addTroop(0, 6, 5);
        Check.same("6 steps", back.order(0, 0), 2);
        back.pass(2);
        Check.same("5 steps, its goal is in sight", back.order(0, 0), 2);
        back.pass(1);
        Check.same("4 steps", back.order(0, 0), 2);
        back.pass(1);
        Check.same("3 steps", back.order(0, 0), 1);
    }

    @Says("An order that is given in the turn t and takes d turns comes in the turn t + d.")
    static void promise5Comes() {
        CourierWar war = Scenes.ridge();
        war.pass(7);
        war.addTroop(0, 4, 5);
        Check.same("2 turns", war.order(0, 9), 2);
        Check.same("for the turn", war.underWay(0, 3), 9);
        war.pass(1);
        Check.same("not yet", war.troop(0, 3), 4);
        war.pass(1);
        Check.same("now", war.troop(0, 3), 9);
    }

    @Says("An order that is given in the turn t and takes d turns comes in the turn t + d.")
    static void promise5BeyondTheLastTurn() {
        CourierWar war = Scenes.atTurn(1000);
        war.addTroop(0, 4, 5);
        Check.same("can be given", war.order(0, 9), 1);
        Check.same("though that turn can't be", war.underWay(0, 3), 1001);
    }

    @Says("Orders are numbered from 0 as they are given")
    static void promise5Numbers() {
        CourierWar war = new CourierWar();
        war.addTroop(0, 4, 5);
        war.order(0, 5);
        Check.same("the first one", war.underWay(0, 0), 0);
        war.pass(1);
        Check.thrown(() -> war.order(0, 96));
        war.order(0, 5);
        Check.same("the second one, as one was refused", war.underWay(0, 0), 1);
        war.undo();
        war.order(0, 6);
        Check.same("its number again, as it is undone", war.underWay(0, 0), 1);
    }

    @Says("at most 30 can be under way")
    static void promise5ThirtyUnderWay() {
        CourierWar war = Scenes.ordered(29);
        Check.same("the 30th", war.order(0, 0), 6);
        Check.same("under way", war.count(5), 30);
    }

    @Says("or 30 orders are under way")
    static void promise5ThirtyOneUnderWay() {
        CourierWar war = Scenes.ordered(30);
        Check.refused(war, "the 31st", STATE, () -> war.order(0, 0));
        war.moveGeneral(0, 94);
        Check.refused(war, "the 31st by signal", STATE, () -> war.order(0, 0));
        war.addTroop(1, 94, 5);
        Check.refused(war, "the 31st, of the other side", STATE, () -> war.order(1, 0));
    }

    @Says("at most 30 can be under way")
    static void promise5ThirtyAgainWhenOneCame() {
        CourierWar war = Scenes.ordered(29);
        war.addTroop(1, 70, 5);
        Check.same("by signal", war.order(1, 70), 1);
        Check.refused(war, "the 31st", STATE, () -> war.order(1, 70));
        war.pass(1);
        Check.same("when one came", war.order(1, 70), 1);
        Check.refused(war, "the 32nd", STATE, () -> war.order(1, 70));
    }

    @Says("the one that is named first in the throws clause is thrown")
    static void promise5IndexBeforeState() {
        CourierWar gone = Scenes.gone();
        Check.refused(gone, "gone, to no cell", INDEX, () -> gone.order(0, 96));
        CourierWar most = Scenes.ordered(30);
        Check.refused(most, "the 31st, to no cell", INDEX, () -> most.order(0, -1));
        Check.refused(most, "the 31st, to no troop", INDEX, () -> most.order(1, 0));
        CourierWar wall = Scenes.wall();
        wall.addTroop(0, 2, 5);
        Check.refused(wall, "without a way, to no cell", INDEX, () -> wall.order(0, 96));
    }

    @Says("saves the state from before it (also if it changes nothing)")
    static void promise5Undoable() {
        CourierWar war = new CourierWar();
        war.addTroop(0, 4, 5);
        Check.undoable(war, "to its own cell", () -> war.order(0, 4));
    }

    // ---- promise 14

    @Says("Throws `IndexOutOfBoundsException` if there is no such order")
    static void promise14NoneUnderWay() {
        CourierWar war = new CourierWar();
        Check.refusedWith(war, "place", INDEX, place -> war.underWay(place, 0),
                0, -1, 29, 30, Integer.MIN_VALUE, Integer.MAX_VALUE);
    }

    @Says("Throws `IndexOutOfBoundsException` if there is no such order")
    static void promise14PlaceBeyond() {
        CourierWar war = Scenes.ordered(30);
        for (int place = 0; place < 30; place++) {
            Check.same("the number at " + place, war.underWay(place, 0), place);
        }
        Check.refusedWith(war, "place of thirty", INDEX, place -> war.underWay(place, 0), -1, 30);
        war.pass(6);
        Check.refused(war, "when all came", INDEX, () -> war.underWay(0, 0));
        war.order(0, 0);
        Check.same("the only one", war.underWay(0, 0), 30);
        Check.refused(war, "behind the only one", INDEX, () -> war.underWay(1, 0));
    }

    @Says("Throws `IllegalArgumentException` if what is not 0 to 3")
    static void promise14WhatBeyond() {
        CourierWar war = Scenes.ordered(1);
        Check.refusedWith(war, "what", ARGUMENT, what -> war.underWay(0, what),
                -1, 4, Integer.MIN_VALUE, Integer.MAX_VALUE);
    }

    @Says("the one that is named first in the throws clause is thrown")
    static void promise14PlaceBeforeWhat() {
        CourierWar war = Scenes.ordered(1);
        Check.refused(war, "no order, no property", INDEX, () -> war.underWay(1, 4));
        Check.refused(war, "no order, no property", INDEX, () -> war.underWay(-1, -1));
    }

    @Says("by the turn, then by the number, from 0")
    static void promise14LaterNumberFirst() {
        CourierWar war = Scenes.ordered(2);
        war.addTroop(0, 2, 5);
        war.order(1, 3);
        Check.same("the last one given comes first", war.underWay(0, 0), 2);
        Check.same("its troop", war.underWay(0, 1), 1);
        Check.same("its goal", war.underWay(0, 2), 3);
        Check.same("its turn", war.underWay(0, 3), 1);
        Check.same("then the first one", war.underWay(1, 0), 0);
        Check.same("then the second one", war.underWay(2, 0), 1);
    }

    @Says("by the turn, then by the number, from 0")
    static void promise14SameTurnByNumber() {
        CourierWar war = Scenes.ordered(1);
        war.addTroop(0, 4, 5);
        war.pass(4);
        Check.same("2 turns later", war.order(1, 3), 2);
        Check.same("both come in the turn", war.underWay(1, 3), 6);
        Check.same("the older one first", war.underWay(0, 0), 0);
        Check.same("then the newer one", war.underWay(1, 0), 1);
    }

    // ---- promise 18

    @Says("Throws `IndexOutOfBoundsException` if there is no such troop")
    static void promise18TroopBeyond() {
        CourierWar war = new CourierWar();
        Check.refusedWith(war, "none of no", INDEX, troop -> war.why(troop), 0, -1, 12);
        war.addTroop(0, 4, 5);
        Check.same("the only one", war.why(0), 0);
        Check.refusedWith(war, "troop", INDEX, troop -> war.why(troop), 1, -1, Integer.MIN_VALUE, Integer.MAX_VALUE);
    }

    @Says("Returns 0 if it could")
    static void promise18Could() {
        CourierWar war = Scenes.ordered(29);
        Check.same("with 29 under way", war.why(0), 0);
        Check.same("a routed one", Scenes.routed(0, 27, 28).why(0), 0);
    }

    @Says("1: the troop is gone; 2: there is no way to it (and it is not seen); 3: 30 orders are under way")
    static void promise18GoneComesFirst() {
        CourierWar war = Scenes.gone();
        Check.same("gone", war.why(0), 1);
        war.shape(1, 85, 9);
        Check.same("gone and without a way", war.why(0), 1);
        for (int i = 0; i < 30; i++) {
            war.order(1, 51);
        }
        Check.same("gone, without a way and thirty", war.why(0), 1);
    }

    @Says("1: the troop is gone; 2: there is no way to it (and it is not seen); 3: 30 orders are under way")
    static void promise18NoWayBeforeThirty() {
        CourierWar war = Scenes.ordered(30);
        war.shape(1, 85, 9);
        Check.same("without a way, and thirty", war.why(0), 2);
        war.shape(1, 85, 2);
        Check.same("with a way, and thirty", war.why(0), 3);
    }

    @Says("2: there is no way to it (and it is not seen)")
    static void promise18SeenWithoutAWay() {
        CourierWar war = Scenes.wall();
        war.addTroop(0, 1, 5);
        war.addTroop(0, 2, 5);
        Check.same("seen on the wall", war.why(0), 0);
        Check.same("behind the wall", war.why(1), 2);
    }

    @Says("3: 30 orders are under way")
    static void promise18Thirty() {
        CourierWar war = Scenes.ordered(30);
        Check.same("thirty", war.why(0), 3);
        war.pass(6);
        Check.same("when they came", war.why(0), 0);
    }
}
