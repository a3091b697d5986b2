/** Promises 4, 13, 15 and 22, sentence by sentence: the fewest and the most troops, and what they have. */
public final class TroopEdgeTest {
    private static final Class<IndexOutOfBoundsException> INDEX = IndexOutOfBoundsException.class;
    private static final Class<IllegalArgumentException> ARGUMENT = IllegalArgumentException.class;
    private static final Class<IllegalStateException> STATE = IllegalStateException.class;
    private static final int[] NO_CELL = {-1, 96, Integer.MIN_VALUE, Integer.MAX_VALUE};
    private static final int[] NO_SIDE = {-1, 2, Integer.MIN_VALUE, Integer.MAX_VALUE};

    public static void main(String[] args) {
        Check.all(TroopEdgeTest.class);
    }

    /** Twelve troops of the strength 20, the numbers 0 to 5 of the side 0, apart from each other. */
    private static CourierWar full() {
        CourierWar war = new CourierWar();
        for (int i = 0; i < 12; i++) {
            Check.same("number", war.addTroop(i / 6, 2 * i + 48 * (i / 6), 20), i);
        }
        return war;
    }

    // ---- promise 4

    @Says("Throws `IndexOutOfBoundsException` if there is no such side or cell")
    static void promise4SideBeyond() {
        CourierWar war = new CourierWar();
        Check.refusedWith(war, "side", INDEX, side -> war.addTroop(side, 5, 5), NO_SIDE);
    }

    @Says("There are two sides, 0 and 1.")
    static void promise4BothSides() {
        CourierWar war = new CourierWar();
        war.addTroop(0, 5, 5);
        war.addTroop(1, 6, 5);
        Check.same("of the side 0", war.troop(0, 0), 0);
        Check.same("of the side 1", war.troop(1, 0), 1);
    }

    @Says("Throws `IndexOutOfBoundsException` if there is no such side or cell")
    static void promise4CellBeyond() {
        CourierWar war = new CourierWar();
        Check.refusedWith(war, "cell", INDEX, cell -> war.addTroop(0, cell, 5), NO_CELL);
    }

    @Says("The cell of the column x and the row y has the number 12 * y + x.")
    static void promise4FirstAndLastCell() {
        CourierWar war = new CourierWar();
        Check.same("to the first one", war.addTroop(1, 0, 5), 0);
        Check.same("to the last one", war.addTroop(0, 95, 5), 1);
        Check.same("in the first one", war.troop(0, 1), 0);
        Check.same("in the last one", war.troop(1, 1), 95);
    }

    @Says("`strength`: 1 to 20")
    static void promise4StrengthOne() {
        CourierWar war = new CourierWar();
        war.addTroop(0, 5, 1);
        Check.same("its strength", war.troop(0, 2), 1);
        Check.same("at first", war.troop(0, 5), 1);
    }

    @Says("`strength`: 1 to 20")
    static void promise4StrengthTwenty() {
        CourierWar war = new CourierWar();
        war.addTroop(0, 5, 20);
        Check.same("its strength", war.troop(0, 2), 20);
        Check.same("at first", war.troop(0, 5), 20);
    }

    @Says("Throws `IllegalArgumentException` if strength is out of range")
    static void promise4StrengthBeyond() {
        CourierWar war = new CourierWar();
        Check.refusedWith(war, "strength", ARGUMENT, strength -> war.addTroop(0, 5, strength),
                0, 21, -1, Integer.MIN_VALUE, Integer.MAX_VALUE);
    }

    @Says("There are at most 12 troops, numbered from 0.")
    static void promise4TwelveTroops() {
        CourierWar war = full();
        Check.same("troops", war.count(1), 12);
        Check.same("the last one", war.cell(94 - 24, 1), 11);
    }

    @Says("Throws `IllegalStateException` if there are 12 troops")
    static void promise4ThirteenthTroop() {
        CourierWar war = full();
        Check.holds("the 13th, without a look ahead", Check.thrown(() -> war.addTroop(0, 95, 5)) == STATE);
        Check.refused(war, "the 13th", STATE, () -> war.addTroop(0, 95, 5));
        Check.refused(war, "the 13th of the other side", STATE, () -> war.addTroop(1, 95, 5));
        Check.same("troops", war.count(1), 12);
        Check.same("its cell is free", war.cell(95, 1), CourierWar.NONE);
        war.undo();
        Check.same("the 12th again", war.addTroop(0, 95, 5), 11);
    }

    @Says("A troop that is gone keeps its number and its cell")
    static void promise4TwelveWithGoneOnes() {
        CourierWar war = Scenes.gone();
        for (int i = 2; i < 12; i++) {
            Check.same("number", war.addTroop(0, i, 5), i);
        }
        Check.same("not gone", war.count(2), 11);
        Check.refused(war, "the 13th", STATE, () -> war.addTroop(0, 95, 5));
    }

    @Says("or a troop that is not gone is in the cell")
    static void promise4TakenCell() {
        CourierWar war = new CourierWar();
        war.addTroop(0, 50, 5);
        Check.refused(war, "a friend's cell", STATE, () -> war.addTroop(0, 50, 5));
        Check.refused(war, "an enemy's cell", STATE, () -> war.addTroop(1, 50, 5));
        CourierWar routed = Scenes.routed(0, 27, 28);
        Check.refused(routed, "a routed one's cell", STATE, () -> routed.addTroop(0, 27, 5));
        CourierWar unasked = new CourierWar();
        unasked.addTroop(0, 50, 5);
        Check.holds("without a look ahead", Check.thrown(() -> unasked.addTroop(0, 50, 5)) == STATE);
    }

    @Says("or a troop that is not gone is in the cell")
    static void promise4CellLeft() {
        CourierWar war = Scenes.sent(40, 41);
        war.pass(1);
        Check.same("to the cell that was left", war.addTroop(0, 40, 5), 1);
        Check.refused(war, "to the cell that is taken now", STATE, () -> war.addTroop(0, 41, 5));
    }

    @Says("or a troop that is not gone is in the cell")
    static void promise4CellOfAGoneTroop() {
        CourierWar war = Scenes.gone();
        Check.same("another one", war.addTroop(0, 50, 5), 2);
        Check.same("the gone one keeps its cell", war.troop(0, 1), 50);
        Check.refused(war, "a third one", STATE, () -> war.addTroop(0, 50, 5));
    }

    @Says("the one that is named first in the throws clause is thrown")
    static void promise4IndexFirst() {
        CourierWar war = full();
        Check.refused(war, "no side, no strength, too many", INDEX, () -> war.addTroop(2, 0, 0));
        Check.refused(war, "no cell, no strength, too many", INDEX, () -> war.addTroop(0, 96, 21));
    }

    @Says("the one that is named first in the throws clause is thrown")
    static void promise4ArgumentBeforeState() {
        CourierWar war = full();
        Check.refused(war, "no strength, too many", ARGUMENT, () -> war.addTroop(0, 95, 21));
        CourierWar other = new CourierWar();
        other.addTroop(0, 50, 5);
        Check.refused(other, "no strength, a taken cell", ARGUMENT, () -> other.addTroop(0, 50, 0));
    }

    @Says("Adds a steady troop.")
    static void promise4AsItBegins() {
        CourierWar war = Scenes.atTurn(5);
        war.addTroop(1, 7, 6);
        int[] due = {1, 7, 6, 7, 0, 6, 0, 0, 0};
        for (int what = 0; what < due.length; what++) {
            Check.same("property " + what, war.troop(0, what), due[what]);
        }
    }

    @Says("Adds a steady troop.")
    static void promise4AfterUndoAsItBegins() {
        CourierWar war = new CourierWar();
        war.addTroop(0, 50, 5);
        war.addTroop(1, 51, 20);
        war.order(0, 0);
        war.pass(1);
        for (int i = 0; i < 3; i++) {
            war.undo();
        }
        Check.same("the number is given again", war.addTroop(1, 95, 9), 1);
        int[] due = {1, 95, 9, 95, 0, 9, 0, 0, 0};
        for (int what = 0; what < due.length; what++) {
            Check.same("property " + what, war.troop(1, what), due[what]);
        }
    }

    @Says("or a troop that is not gone is in the cell")
    static void promise4CellThatIsLookedAheadTo() {
        CourierWar war = Scenes.sent(40, 41);
        Check.same("nothing is lost", war.ifPassed(1, 7), 0);
        Check.same("where one would be", war.addTroop(0, 41, 5), 1);
        Check.refused(war, "where one is", STATE, () -> war.addTroop(0, 40, 5));
    }

    // ---- promise 13

    @Says("Throws `IndexOutOfBoundsException` if there is no such troop")
    static void promise13NoTroops() {
        CourierWar war = new CourierWar();
        Check.refusedWith(war, "troop", INDEX, troop -> war.troop(troop, 0),
                0, -1, 11, 12, Integer.MIN_VALUE, Integer.MAX_VALUE);
    }

    @Says("Throws `IndexOutOfBoundsException` if there is no such troop")
    static void promise13TroopBeyond() {
        CourierWar war = new CourierWar();
        war.addTroop(0, 5, 5);
        Check.same("the first and last one", war.troop(0, 1), 5);
        Check.refusedWith(war, "troop", INDEX, troop -> war.troop(troop, 8), -1, 1);
        CourierWar most = full();
        Check.same("the last one", most.troop(11, 1), 70);
        Check.refusedWith(most, "troop of twelve", INDEX, troop -> most.troop(troop, 8), -1, 12);
    }

    @Says("Throws `IllegalArgumentException` if what is not 0 to 8")
    static void promise13WhatBeyond() {
        CourierWar war = new CourierWar();
        war.addTroop(0, 5, 5);
        Check.refusedWith(war, "what", ARGUMENT, what -> war.troop(0, what),
                -1, 9, Integer.MIN_VALUE, Integer.MAX_VALUE);
    }

    @Says("the one that is named first in the throws clause is thrown")
    static void promise13TroopBeforeWhat() {
        CourierWar war = new CourierWar();
        Check.refused(war, "no troop, no property", INDEX, () -> war.troop(0, 9));
        Check.refused(war, "no troop, no property", INDEX, () -> war.troop(-1, -1));
    }

    @Says("is steady, routed or gone")
    static void promise13Conditions() {
        CourierWar war = Scenes.routed(0, 27, 28);
        Check.same("steady", war.troop(1, 4), 0);
        Check.same("routed", war.troop(0, 4), 1);
        Check.same("gone", Scenes.gone().troop(0, 4), 2);
    }

    @Says("what it lost in the latest turn, 0 before any")
    static void promise13LostBeforeAnyTurn() {
        CourierWar war = new CourierWar();
        war.addTroop(0, 50, 20);
        war.addTroop(1, 51, 20);
        Check.same("though an enemy is beside it", war.troop(0, 6), 0);
        war.pass(2);
        war.addTroop(1, 49, 20);
        Check.same("a new one in a later turn", war.troop(2, 6), 0);
    }

    @Says("what it lost in the latest turn, 0 before any")
    static void promise13LostInLatestTurnOnly() {
        CourierWar war = new CourierWar();
        war.addTroop(0, 50, 20);
        war.addTroop(1, 51, 20);
        war.pass(9);
        Check.same("of nine turns", war.troop(0, 6), 1);
        war.undo();
        Check.same("undone", war.troop(0, 6), 0);
        CourierWar fled = Scenes.routed(0, 27, 28);
        fled.pass(1);
        Check.same("a turn without a loss", fled.troop(0, 6), 0);
    }

    @Says("what it lost in the latest turn, 0 before any")
    static void promise13LossStandsUntilTheNextTurn() {
        CourierWar war = new CourierWar();
        war.addTroop(0, 50, 20);
        war.addTroop(1, 51, 20);
        war.pass(1);
        war.shape(0, 95, 3);
        war.moveGeneral(0, 44);
        war.addTroop(0, 0, 5);
        war.order(0, 49);
        Check.type(war, "1>0,0");
        Check.same("loaded", war.load(), 1);
        Check.same("after all other calls", war.troop(0, 6), 1);
        Check.same("of the other side", war.troop(1, 6), 1);
        war.pass(1);
        Check.same("after the next turn", war.troop(0, 6), 0);
    }

    @Says("what it lost in the latest turn, 0 before any")
    static void promise13LostMost() {
        CourierWar war = new CourierWar();
        war.shape(38, 40, 1);
        war.shape(27, 51, 1);
        war.shape(39, 39, 0);
        war.addTroop(0, 39, 20);
        for (int enemy : new int[] {27, 38, 40, 51}) {
            war.addTroop(1, enemy, 20);
        }
        war.pass(1);
        Check.same("four that stand higher", war.troop(0, 6), 8);
        Check.same("left", war.troop(0, 2), 12);
    }

    @Says("does nothing any more")
    static void promise13GoneOneLosesNoMore() {
        CourierWar war = Scenes.gone();
        Check.same("in the turn in which it went", war.troop(0, 6), 1);
        war.pass(1);
        Check.same("in the next one", war.troop(0, 6), 0);
        Check.same("its number and cell", war.troop(0, 1), 50);
        Check.same("its strength", war.troop(0, 2), 0);
        Check.same("its strength at first", war.troop(0, 5), 1);
        Check.same("still gone", war.troop(0, 4), 2);
    }

    @Says("orders for it that are under way")
    static void promise13OrdersForIt() {
        CourierWar war = Scenes.ordered(29);
        war.addTroop(0, 2, 5);
        Check.same("none for another one", war.troop(1, 7), 0);
        Check.same("29", war.troop(0, 7), 29);
        war.order(0, 0);
        Check.same("all thirty", war.troop(0, 7), 30);
        war.pass(6);
        Check.same("none, as they came", war.troop(0, 7), 0);
        war.order(1, 5);
        Check.same("none for the one before", war.troop(0, 7), 0);
        Check.same("one for the other one", war.troop(1, 7), 1);
    }

    @Says("how many orders came to it (not those that were lost)")
    static void promise13OrdersThatCame() {
        CourierWar war = Scenes.ordered(30);
        Check.same("none came yet", war.troop(0, 8), 0);
        war.pass(5);
        Check.same("nor a turn before", war.troop(0, 8), 0);
        war.pass(1);
        Check.same("all of them", war.troop(0, 8), 30);
        CourierWar routed = Scenes.routed(0, 27, 28);
        routed.order(0, 0);
        routed.pass(1);
        Check.same("not one that was lost", routed.troop(0, 8), 0);
    }

    // ---- promise 15

    @Says("Throws `IllegalArgumentException` if what is not 0 to 13")
    static void promise15WhatBeyond() {
        CourierWar war = new CourierWar();
        Check.refusedWith(war, "what", ARGUMENT, what -> war.count(what),
                -1, 14, Integer.MIN_VALUE, Integer.MAX_VALUE);
    }

    @Says("number of the turn")
    static void promise15TurnsToTheLast() {
        CourierWar war = Scenes.atTurn(999);
        war.pass(1);
        Check.same("the last one", war.count(0), 1000);
    }

    @Says("troops that are not gone; 3: routed ones")
    static void promise15TroopsFewestAndMost() {
        CourierWar war = full();
        Check.same("troops", war.count(1), 12);
        Check.same("not gone", war.count(2), 12);
        Check.same("routed", war.count(3), 0);
        CourierWar dying = new CourierWar();
        for (int i = 0; i < 12; i++) {
            dying.addTroop(i % 2, i, 3);
        }
        dying.pass(1);
        Check.same("ten are routed", dying.count(3), 10);
        Check.same("none is gone", dying.count(2), 12);
        CourierWar dead = new CourierWar();
        for (int i = 0; i < 12; i++) {
            dead.addTroop(i % 2, i, 1);
        }
        dead.pass(1);
        Check.same("troops all the same", dead.count(1), 12);
        Check.same("all are gone", dead.count(2), 0);
        Check.same("and so none is routed", dead.count(3), 0);
    }

    @Says("orders given so far; 5: orders under way; 6: lost orders so far")
    static void promise15Orders() {
        CourierWar war = Scenes.ordered(30);
        Check.same("given", war.count(4), 30);
        Check.same("under way", war.count(5), 30);
        war.pass(6);
        Check.same("still given", war.count(4), 30);
        Check.same("under way no more", war.count(5), 0);
        Check.same("none lost", war.count(6), 0);
        war.order(0, 0);
        Check.same("one more given", war.count(4), 31);
        CourierWar routed = Scenes.routed(0, 27, 28);
        for (int i = 0; i < 30; i++) {
            routed.order(0, 0);
        }
        Check.same("not lost as long as they are under way", routed.count(6), 0);
        routed.pass(1);
        Check.same("all lost", routed.count(6), 30);
    }

    @Says("what the side 0 and 1 lost so far; 9 and 10: the strength of the side 0 and 1 now")
    static void promise15StrengthMostAndNone() {
        CourierWar war = new CourierWar();
        for (int i = 0; i < 12; i++) {
            war.addTroop(1, i, 20);
        }
        Check.same("the side 0 has none", war.count(9), 0);
        Check.same("the side 1 has all", war.count(10), 240);
        CourierWar gone = Scenes.gone();
        Check.same("nothing is left", gone.count(9), 0);
        Check.same("all but one is left", gone.count(10), 19);
    }

    @Says("what the side 0 and 1 lost so far; 9 and 10: the strength of the side 0 and 1 now")
    static void promise15BothSides() {
        CourierWar war = new CourierWar();
        war.shape(27, 27, 1);
        war.addTroop(0, 39, 20);
        war.addTroop(1, 27, 15);
        war.pass(2);
        int[] due = {4, 2, 16, 13};
        for (int what = 7; what <= 10; what++) {
            Check.same("count " + what, war.count(what), due[what - 7]);
        }
        war.addTroop(1, 0, 7);
        Check.same("a new one has lost nothing", war.count(8), 2);
        Check.same("but has its strength", war.count(10), 20);
        war.undo();
        Check.same("until it is undone", war.count(10), 13);
    }

    @Says("the cell of the general of the side 0 and 1")
    static void promise15Generals() {
        CourierWar war = new CourierWar();
        war.moveGeneral(0, 95);
        war.moveGeneral(1, 0);
        Check.same("of the side 0", war.count(11), 95);
        Check.same("of the side 1", war.count(12), 0);
    }

    @Says("At most 5 states are saved")
    static void promise15SavedStates() {
        CourierWar war = new CourierWar();
        for (int i = 0; i <= 7; i++) {
            Check.same("saved", war.count(13), Math.min(i, 5));
            war.moveGeneral(0, i);
        }
    }

    // ---- promise 22

    @Says("1.0 if there are no troops")
    static void promise22NoTroops() {
        CourierWar war = new CourierWar();
        Check.same("at first", war.strengthLeft(), 1.0);
        war.addTroop(0, 5, 5);
        war.undo();
        Check.same("when the only one is undone", war.strengthLeft(), 1.0);
    }

    @Says("divided by the sum of what all troops had at first")
    static void promise22AllLeft() {
        Check.same("of twelve troops", full().strengthLeft(), 1.0);
        CourierWar war = new CourierWar();
        war.addTroop(0, 5, 1);
        Check.same("of the least strength", war.strengthLeft(), 1.0);
    }

    @Says("divided by the sum of what all troops had at first")
    static void promise22NothingLeft() {
        CourierWar war = new CourierWar();
        war.addTroop(0, 0, 1);
        war.addTroop(1, 1, 1);
        war.pass(1);
        Check.same("all are gone", war.strengthLeft(), 0.0);
    }

    @Says("divided by the sum of what all troops had at first")
    static void promise22GoneOnesCount() {
        CourierWar war = Scenes.gone();
        Check.same("19 of 1 and 20", war.strengthLeft(), 19.0 / 21.0);
        war.addTroop(0, 0, 20);
        Check.same("39 of 1, 20 and 20", war.strengthLeft(), 39.0 / 41.0);
    }

    @Says("the strength of both sides now, as a double")
    static void promise22BothSides() {
        CourierWar war = new CourierWar();
        war.addTroop(0, 50, 7);
        war.addTroop(1, 51, 3);
        war.addTroop(1, 49, 3);
        war.pass(1);
        Check.same("5, 2 and 2 of 13", war.strengthLeft(), 9.0 / 13.0);
    }
}
