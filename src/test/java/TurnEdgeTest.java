import java.util.Arrays;

/** Promise 6, sentence by sentence: where turns, marches, fights and routs begin and end. */
public final class TurnEdgeTest {
    private static final Class<IllegalArgumentException> ARGUMENT = IllegalArgumentException.class;
    private static final Class<IllegalStateException> STATE = IllegalStateException.class;

    public static void main(String[] args) {
        Check.all(TurnEdgeTest.class);
    }

    /** A troop of the side 0 at the cell 39, and one of the strength 20 of the other side at each of the cells. */
    private static CourierWar beset(int strength, int... enemies) {
        CourierWar war = new CourierWar();
        war.addTroop(0, 39, strength);
        for (int cell : enemies) {
            war.addTroop(1, cell, 20);
        }
        return war;
    }

    // ---- how many turns

    @Says("`turns`: 1 to 50")
    static void promise6OneTurn() {
        CourierWar war = new CourierWar();
        Check.same("nothing is lost", war.pass(1), 0);
        Check.same("the turn", war.count(0), 1);
    }

    @Says("`turns`: 1 to 50")
    static void promise6FiftyTurns() {
        CourierWar war = new CourierWar();
        Check.same("nothing is lost", war.pass(50), 0);
        Check.same("the turn", war.count(0), 50);
    }

    @Says("Throws `IllegalArgumentException` if turns is out of range")
    static void promise6TurnsBeyond() {
        CourierWar war = new CourierWar();
        Check.refusedWith(war, "turns", ARGUMENT, turns -> war.pass(turns),
                0, 51, -1, Integer.MIN_VALUE, Integer.MAX_VALUE);
    }

    @Says("Throws `IllegalStateException` if the number of the turn would be above 1000")
    static void promise6ToTheTurn1000() {
        CourierWar war = Scenes.atTurn(950);
        war.pass(50);
        Check.same("by fifty", war.count(0), 1000);
        war.undo();
        war.pass(49);
        war.pass(1);
        Check.same("by one", war.count(0), 1000);
    }

    @Says("Throws `IllegalStateException` if the number of the turn would be above 1000")
    static void promise6ToTheTurn1001() {
        CourierWar war = Scenes.atTurn(951);
        Check.refused(war, "by fifty", STATE, () -> war.pass(50));
        war.pass(49);
        Check.refused(war, "by one", STATE, () -> war.pass(1));
    }

    @Says("the one that is named first in the throws clause is thrown")
    static void promise6ArgumentBeforeState() {
        CourierWar war = Scenes.atTurn(1000);
        Check.refusedWith(war, "turns", ARGUMENT, turns -> war.pass(turns), 0, 51, Integer.MAX_VALUE);
    }

    @Says("Lets turns pass. Undoable, as one call.")
    static void promise6UndoneAsOneCall() {
        CourierWar war = Scenes.pit();
        Check.undoable(war, "fifty turns", () -> war.pass(50));
        Check.undoable(war, "one turn", () -> war.pass(1));
    }

    @Says("Lets turns pass. Undoable, as one call.")
    static void promise6ManyAsOneByOne() {
        CourierWar many = Scenes.pit();
        CourierWar single = Scenes.pit();
        int lost = 0;
        for (int i = 0; i < 15; i++) {
            lost += single.pass(1);
        }
        Check.same("lost", many.pass(15), lost);
        for (int what = 0; what <= 12; what++) {
            Check.same("count " + what, many.count(what), single.count(what));
        }
        for (int what = 0; what <= 8; what++) {
            Check.same("property " + what, many.troop(1, what), single.troop(1, what));
        }
    }

    @Says("Returns how much strength both sides lost in them.")
    static void promise6LostInAllTurns() {
        CourierWar war = Scenes.pit();
        Check.same("in one turn", war.pass(1), 2);
        Check.same("in the other 19", war.pass(19), 38);
        Check.same("when both are gone", war.pass(50), 0);
    }

    // ---- 1: orders come

    @Says("The orders that come in this turn come, by their numbers")
    static void promise6HighestNumberComesLast() {
        CourierWar war = Scenes.ridge();
        war.addTroop(0, 4, 5);
        Check.same("2 turns", war.order(0, 9), 2);
        war.pass(1);
        war.moveGeneral(0, 4);
        Check.same("1 turn", war.order(0, 16), 1);
        war.pass(1);
        Check.same("both came", war.troop(0, 8), 2);
        Check.same("the goal of the later one", war.troop(0, 3), 16);
    }

    @Says("if the troop is steady, the cell becomes its goal")
    static void promise6MarchesInTheTurnItComes() {
        Scenes.walks(Scenes.sent(0, 2), 0, 1, 2, 2);
    }

    @Says("if the troop is steady, the cell becomes its goal")
    static void promise6ComesBeforeItIsRouted() {
        CourierWar war = new CourierWar();
        war.addTroop(0, 27, 2);
        war.addTroop(1, 28, 20);
        war.order(0, 27);
        war.pass(1);
        Check.same("routed", war.troop(0, 4), 1);
        Check.same("the order came", war.troop(0, 8), 1);
        Check.same("none is lost", war.count(6), 0);
    }

    @Says("if the troop is steady, the cell becomes its goal")
    static void promise6ComesBeforeItIsGone() {
        CourierWar war = new CourierWar();
        war.addTroop(0, 27, 1);
        war.addTroop(1, 28, 20);
        war.order(0, 27);
        war.pass(1);
        Check.same("gone", war.troop(0, 4), 2);
        Check.same("the order came", war.troop(0, 8), 1);
        Check.same("none is lost", war.count(6), 0);
    }

    @Says("if it is routed or gone, the order is lost")
    static void promise6LostBeforeItRallies() {
        CourierWar war = Scenes.routed(0, 27, 28);
        war.pass(1);
        war.shape(3, 87, 9);
        Check.same("1 turn", war.order(0, 95), 1);
        war.pass(1);
        Check.same("steady", war.troop(0, 4), 0);
        Check.same("the order is lost", war.count(6), 1);
        Check.same("none came", war.troop(0, 8), 0);
        Check.same("its goal is its cell", war.troop(0, 3), 25);
        Check.same("1 turn again", war.order(0, 24), 1);
        war.pass(1);
        Check.same("this one comes", war.troop(0, 3), 24);
    }

    @Says("if it is routed or gone, the order is lost")
    static void promise6LostWhenGone() {
        CourierWar war = Scenes.ridge();
        war.addTroop(0, 4, 1);
        war.addTroop(1, 5, 9);
        Check.same("2 turns", war.order(0, 9), 2);
        war.pass(1);
        Check.same("not lost yet", war.count(6), 0);
        Check.same("but under way", war.count(5), 1);
        war.pass(1);
        Check.same("lost", war.count(6), 1);
        Check.same("not under way", war.count(5), 0);
        Check.same("none came", war.troop(0, 8), 0);
        Check.same("its goal", war.troop(0, 3), 4);
    }

    // ---- 2: marches

    @Says("A steady troop that is not at its goal looks for the least ways to it")
    static void promise6AtItsGoal() {
        Scenes.walks(Scenes.sent(40, 40), 0, 40, 40);
    }

    @Says("it steps to the first one of the neighbours of its cell")
    static void promise6OneStepATurn() {
        Scenes.walks(Scenes.sent(0, 11), 0, 1, 2, 3, 4, 5, 6, 7, 8, 9, 10, 11, 11);
    }

    @Says("a cell has its neighbours in this order: above (row less), right, below, left")
    static void promise6AboveComesFirst() {
        Scenes.walks(Scenes.sent(39, 28), 0, 27, 28);
        Scenes.walks(Scenes.sent(39, 26), 0, 27, 26);
        Scenes.walks(Scenes.sent(39, 27), 0, 27);
    }

    @Says("a cell has its neighbours in this order: above (row less), right, below, left")
    static void promise6RightBeforeBelow() {
        Scenes.walks(Scenes.sent(39, 52), 0, 40, 52);
        Scenes.walks(Scenes.sent(39, 40), 0, 40);
    }

    @Says("a cell has its neighbours in this order: above (row less), right, below, left")
    static void promise6BelowBeforeLeft() {
        Scenes.walks(Scenes.sent(39, 50), 0, 51, 50);
        Scenes.walks(Scenes.sent(39, 51), 0, 51);
    }

    @Says("a cell has its neighbours in this order: above (row less), right, below, left")
    static void promise6LeftComesLast() {
        Scenes.walks(Scenes.sent(39, 38), 0, 38);
    }

    @Says("that is the next cell of such a least way")
    static void promise6LeastWaysOnly() {
        Scenes.walks(Scenes.sent(39, 41), 0, 40, 41);
        Scenes.walks(Scenes.sent(39, 37), 0, 38, 37);
        CourierWar shut = Scenes.sent(39, 28);
        shut.shape(27, 27, 3);
        Scenes.walks(shut, 0, 40, 28);
    }

    @Says("over cells in which no other troop is that is not gone")
    static void promise6RoundAFriend() {
        CourierWar war = Scenes.sent(0, 2);
        war.addTroop(0, 1, 9);
        Scenes.walks(war, 0, 12, 13, 14, 2);
    }

    @Says("over cells in which no other troop is that is not gone")
    static void promise6RoundAnEnemy() {
        CourierWar war = Scenes.sent(0, 2);
        war.addTroop(1, 1, 9);
        Scenes.walks(war, 0, 12, 13, 14);
    }

    @Says("over cells in which no other troop is that is not gone")
    static void promise6RoundARoutedOne() {
        CourierWar war = routedByTheFallen();
        war.addTroop(1, 95, 20);
        Scenes.walks(war, 0, 39, 38, 37, 36, 36);
        int friend = Scenes.send(war, 24, 48);
        Scenes.walks(war, friend, 25, 37, 49, 48);
        Check.same("routed all the while", war.troop(0, 4), 1);
        Check.same("in the way", war.troop(0, 1), 36);
    }

    @Says("over cells in which no other troop is that is not gone")
    static void promise6OverAGoneTroop() {
        CourierWar war = Scenes.gone();
        war.order(1, 49);
        Scenes.walks(war, 1, 50, 49);
        CourierWar goal = Scenes.gone();
        goal.order(1, 50);
        Scenes.walks(goal, 1, 50);
    }

    @Says("if there is none, it stays")
    static void promise6ShutInByTroops() {
        CourierWar war = Scenes.sent(0, 2);
        war.addTroop(0, 1, 9);
        war.addTroop(0, 12, 9);
        Scenes.walks(war, 0, 0, 0);
        war.order(2, 24);
        war.pass(1);
        Check.same("it stands in the way until its turn", war.troop(0, 1), 0);
        Scenes.walks(war, 0, 12, 13);
    }

    @Says("if there is none, it stays")
    static void promise6ShutInByCliffs() {
        CourierWar war = Scenes.sent(0, 2);
        war.shape(0, 0, 3);
        Scenes.walks(war, 0, 0, 0);
        war.shape(0, 0, 2);
        Scenes.walks(war, 0, 1);
    }

    @Says("generals do not fight, and share cells with others")
    static void promise6OverGenerals() {
        CourierWar war = Scenes.sent(0, 3);
        war.moveGeneral(0, 1);
        war.moveGeneral(1, 2);
        Scenes.walks(war, 0, 1, 2, 3);
        Check.same("the general of its side stays", war.count(11), 1);
        Check.same("the one of the other side stays", war.count(12), 2);
        Check.same("nothing is lost", war.count(7) + war.count(8), 0);
    }

    @Says("(but the goal itself may be taken)")
    static void promise6TakenGoalBeside() {
        CourierWar war = Scenes.sent(0, 1);
        war.addTroop(0, 1, 9);
        Scenes.walks(war, 0, 0, 0);
        war.order(1, 2);
        Scenes.walks(war, 0, 0, 1);
    }

    @Says("(but the goal itself may be taken)")
    static void promise6TakenGoalFarOff() {
        CourierWar war = Scenes.sent(0, 4);
        war.addTroop(0, 4, 9);
        Scenes.walks(war, 0, 1, 2, 3, 3);
        CourierWar enemy = Scenes.sent(0, 4);
        enemy.addTroop(1, 4, 20);
        Scenes.walks(enemy, 0, 1, 2, 3, 3);
    }

    @Says("Two troops that are not gone are never in the same cell.")
    static void promise6NoExchange() {
        CourierWar war = new CourierWar();
        Scenes.send(war, 40, 41);
        Scenes.send(war, 41, 40);
        war.pass(3);
        Check.same("the first one", war.troop(0, 1), 40);
        Check.same("the second one", war.troop(1, 1), 41);
    }

    @Says("by their numbers, each one as the others stand by then")
    static void promise6FollowsALowerNumber() {
        CourierWar war = new CourierWar();
        war.shape(12, 23, 9);
        Scenes.send(war, 1, 3);
        Scenes.send(war, 0, 2);
        war.pass(1);
        Check.same("the one ahead goes", war.troop(0, 1), 2);
        Check.same("the one behind follows", war.troop(1, 1), 1);
    }

    @Says("by their numbers, each one as the others stand by then")
    static void promise6WaitsForAHigherNumber() {
        CourierWar war = new CourierWar();
        war.shape(12, 23, 9);
        Scenes.send(war, 0, 2);
        Scenes.send(war, 1, 3);
        war.pass(1);
        Check.same("the one behind waits", war.troop(0, 1), 0);
        Check.same("the one ahead goes", war.troop(1, 1), 2);
        war.pass(1);
        Check.same("the one behind follows", war.troop(0, 1), 1);
    }

    @Says("One can step from a cell to a neighbour if their heights differ by at most 2.")
    static void promise6ClimbsTwo() {
        CourierWar war = Scenes.sent(0, 2);
        war.shape(1, 1, 2);
        Scenes.walks(war, 0, 1, 2);
    }

    @Says("One can step from a cell to a neighbour if their heights differ by at most 2.")
    static void promise6ClimbsNoThree() {
        CourierWar war = Scenes.sent(0, 2);
        war.shape(1, 1, 3);
        Scenes.walks(war, 0, 12, 13, 14, 2);
        CourierWar deep = Scenes.sent(0, 2);
        deep.shape(0, 95, 3);
        deep.shape(1, 1, 0);
        Scenes.walks(deep, 0, 12);
    }

    @Says("does nothing any more")
    static void promise6GoneOneMarchesNot() {
        CourierWar war = new CourierWar();
        war.addTroop(0, 50, 1);
        war.addTroop(1, 39, 20);
        war.order(0, 2);
        Scenes.walks(war, 0, 38, 38);
        Check.same("gone", war.troop(0, 4), 2);
        Check.same("its goal", war.troop(0, 3), 2);
    }

    // ---- 2: flights

    @Says("A routed troop steps left (side 0) or right (side 1)")
    static void promise6SideZeroFleesLeft() {
        Scenes.walks(Scenes.routed(0, 26, 27), 0, 25, 24);
    }

    @Says("A routed troop steps left (side 0) or right (side 1)")
    static void promise6SideOneFleesRight() {
        Scenes.walks(Scenes.routed(1, 21, 20), 0, 22, 23);
    }

    @Says("if there is a cell, one can step there, and it is free; otherwise it stays")
    static void promise6FleesNotOverTheRim() {
        Scenes.walks(Scenes.routed(0, 24, 25), 0, 24);
        Scenes.walks(Scenes.routed(1, 23, 22), 0, 23);
        Scenes.walks(Scenes.routed(0, 0, 1), 0, 0);
        Scenes.walks(Scenes.routed(1, 95, 94), 0, 95);
    }

    @Says("if there is a cell, one can step there, and it is free; otherwise it stays")
    static void promise6FleesOverStepsOfTwo() {
        CourierWar up = Scenes.routed(0, 27, 28);
        up.shape(26, 26, 2);
        Scenes.walks(up, 0, 26);
        CourierWar down = Scenes.routed(0, 27, 28);
        down.shape(27, 27, 2);
        Scenes.walks(down, 0, 26);
    }

    @Says("if there is a cell, one can step there, and it is free; otherwise it stays")
    static void promise6FleesNotOverStepsOfThree() {
        CourierWar up = Scenes.routed(0, 27, 28);
        up.shape(26, 26, 3);
        Scenes.walks(up, 0, 27);
        CourierWar down = Scenes.routed(0, 27, 28);
        down.shape(27, 27, 3);
        Scenes.walks(down, 0, 27);
    }

    @Says("if there is a cell, one can step there, and it is free; otherwise it stays")
    static void promise6FleesNotToATakenCell() {
        CourierWar friend = Scenes.routed(0, 27, 28);
        friend.addTroop(0, 26, 20);
        Scenes.walks(friend, 0, 27);
        CourierWar enemy = Scenes.routed(0, 27, 28);
        enemy.addTroop(1, 26, 20);
        Scenes.walks(enemy, 0, 27);
    }

    @Says("if there is a cell, one can step there, and it is free; otherwise it stays")
    static void promise6FleesNotToARoutedFriend() {
        CourierWar war = new CourierWar();
        war.addTroop(0, 24, 4);
        war.addTroop(0, 25, 4);
        war.addTroop(1, 12, 20);
        war.addTroop(1, 13, 20);
        war.pass(2);
        Check.same("both are routed", war.count(3), 2);
        Scenes.walks(war, 1, 25);
        Check.same("the one at the rim", war.troop(0, 1), 24);
    }

    @Says("if there is a cell, one can step there, and it is free; otherwise it stays")
    static void promise6FleesOverAGoneTroop() {
        CourierWar war = new CourierWar();
        war.addTroop(0, 40, 6);
        war.addTroop(1, 28, 20);
        war.addTroop(1, 41, 20);
        war.addTroop(1, 39, 1);
        war.pass(1);
        Check.same("routed", war.troop(0, 4), 1);
        Check.same("gone", war.troop(3, 4), 2);
        Scenes.walks(war, 0, 39);
    }

    @Says("A routed troop steps left (side 0) or right (side 1)")
    static void promise6RoutedOneLeavesItsGoal() {
        CourierWar war = Scenes.routed(0, 27, 28);
        war.pass(1);
        Check.same("its goal", war.troop(0, 3), 27);
        Check.same("but it fled", war.troop(0, 1), 26);
    }

    // ---- 3: fights

    @Says("a troop loses 1 for each enemy (a troop of the other side that is not gone) at a neighbour cell")
    static void promise6OneForEachNeighbour() {
        int[] enemies = {27, 40, 51, 38};
        for (int i = 0; i <= 4; i++) {
            CourierWar war = beset(20, Arrays.copyOf(enemies, i));
            Check.same("lost by all", war.pass(1), 2 * i);
            Check.same("lost against " + i, war.troop(0, 6), i);
        }
        for (int cell : enemies) {
            Check.same("against one at " + cell, beset(20, cell).pass(1), 2);
        }
    }

    @Says("a troop loses 1 for each enemy (a troop of the other side that is not gone) at a neighbour cell")
    static void promise6NothingFartherOff() {
        Check.same("diagonal", beset(20, 26, 28, 50, 52).pass(1), 0);
        Check.same("two cells off", beset(20, 15, 41, 63, 37).pass(1), 0);
    }

    @Says("Two cells are neighbours if they share a side")
    static void promise6NoFightOverTheRim() {
        CourierWar war = new CourierWar();
        war.addTroop(0, 11, 20);
        war.addTroop(1, 12, 20);
        war.addTroop(0, 84, 20);
        war.addTroop(1, 0, 20);
        war.addTroop(1, 83, 20);
        war.pass(1);
        Check.same("of one row and the next one", war.troop(0, 6), 0);
        Check.same("of the last row and the first one", war.troop(2, 6), 0);
        Check.same("the side 1 has met its neighbour only", war.count(8), 0);
    }

    @Says("a troop loses 1 for each enemy (a troop of the other side that is not gone) at a neighbour cell")
    static void promise6FriendsDoNotFight() {
        CourierWar war = new CourierWar();
        war.addTroop(1, 39, 20);
        war.addTroop(1, 40, 20);
        Check.same("of the side 1", war.pass(5), 0);
        war.addTroop(0, 0, 20);
        war.addTroop(0, 1, 20);
        Check.same("of the side 0", war.pass(5), 0);
    }

    @Says("does nothing any more")
    static void promise6GoneOnesDoNotFight() {
        CourierWar war = Scenes.gone();
        Check.same("lost", war.pass(5), 0);
        Check.same("by the one beside it", war.troop(1, 2), 19);
    }

    @Says("All troops that are not gone fight, all at once")
    static void promise6AllAtOnce() {
        CourierWar war = new CourierWar();
        war.addTroop(0, 39, 1);
        war.addTroop(1, 40, 1);
        Check.same("both lose", war.pass(1), 2);
        Check.same("the first one is gone", war.troop(0, 4), 2);
        Check.same("the second one is gone", war.troop(1, 4), 2);
    }

    @Says("All troops that are not gone fight, all at once")
    static void promise6RoutedOnesFight() {
        CourierWar war = Scenes.pit();
        war.pass(10);
        Check.same("one is routed", war.troop(0, 4), 1);
        Check.same("the other one is routed", war.troop(1, 4), 1);
        Check.same("both lose", war.pass(1), 2);
    }

    @Says("All troops that are not gone fight, all at once")
    static void promise6FightsWhereItHasMarched() {
        CourierWar war = Scenes.sent(38, 39);
        war.addTroop(1, 40, 20);
        Check.same("met", war.pass(1), 2);
        CourierWar fled = Scenes.routed(0, 27, 28);
        Check.same("fled", fled.pass(1), 0);
    }

    @Says("whatever the heights, and 1 more for each such enemy that stands higher")
    static void promise6HigherByOne() {
        CourierWar war = beset(20, 27, 40);
        war.shape(27, 27, 1);
        war.pass(1);
        Check.same("2 against the higher one, 1 against the other", war.troop(0, 6), 3);
        Check.same("the higher one", war.troop(1, 6), 1);
        Check.same("the other one", war.troop(2, 6), 1);
    }

    @Says("whatever the heights, and 1 more for each such enemy that stands higher")
    static void promise6HigherByNine() {
        CourierWar war = beset(20, 27);
        war.shape(27, 27, 9);
        war.pass(1);
        Check.same("the lower one", war.troop(0, 6), 2);
        Check.same("the higher one", war.troop(1, 6), 1);
    }

    @Says("whatever the heights, and 1 more for each such enemy that stands higher")
    static void promise6AsHigh() {
        CourierWar war = beset(20, 27);
        war.shape(0, 95, 9);
        Check.same("1 each", war.pass(1), 2);
    }

    @Says("whatever the heights, and 1 more for each such enemy that stands higher")
    static void promise6HigherThanWhereItStands() {
        CourierWar war = new CourierWar();
        war.shape(0, 95, 2);
        war.shape(40, 40, 1);
        war.shape(41, 41, 3);
        war.addTroop(0, 39, 20);
        war.addTroop(1, 52, 20);
        war.order(0, 41);
        war.pass(1);
        Check.same("on its way", war.troop(0, 1), 40);
        Check.same("below its enemy, though its goal is above", war.troop(0, 6), 2);
        Check.same("its enemy", war.troop(1, 6), 1);
    }

    @Says("but not more than it has")
    static void promise6NotMoreThanItHas() {
        CourierWar war = beset(7, 27, 38, 40, 51);
        war.shape(0, 95, 1);
        war.shape(39, 39, 0);
        Check.same("7 and four times 1", war.pass(1), 11);
        Check.same("of 8", war.troop(0, 6), 7);
        Check.same("its side lost", war.count(7), 7);
        Check.same("its strength", war.troop(0, 2), 0);
    }

    @Says("Those with the strength 0 then are gone.")
    static void promise6GoneAtZero() {
        CourierWar war = beset(4, 27, 38, 40, 51);
        war.pass(1);
        Check.same("lost", war.troop(0, 6), 4);
        Check.same("gone", war.troop(0, 4), 2);
    }

    @Says("Those with the strength 0 then are gone.")
    static void promise6NotGoneAtOne() {
        CourierWar war = beset(5, 27, 38, 40, 51);
        war.pass(1);
        Check.same("left", war.troop(0, 2), 1);
        Check.same("routed", war.troop(0, 4), 1);
    }

    // ---- 4: routs and rallies

    @Says("whose strength is at most half of what it had at first (2 * strength <= that), is routed")
    static void promise6RoutedAtHalf() {
        CourierWar even = beset(4, 27, 38);
        even.pass(1);
        Check.same("2 of 4", even.troop(0, 4), 1);
        CourierWar most = beset(20, 27);
        most.pass(10);
        Check.same("10 of 20", most.troop(0, 4), 1);
    }

    @Says("whose strength is at most half of what it had at first (2 * strength <= that), is routed")
    static void promise6SteadyAboveHalf() {
        CourierWar odd = beset(3, 27);
        odd.pass(1);
        Check.same("2 of 3", odd.troop(0, 4), 0);
        odd.pass(1);
        Check.same("1 of 3", odd.troop(0, 4), 1);
        CourierWar most = beset(20, 27);
        most.pass(9);
        Check.same("11 of 20", most.troop(0, 4), 0);
    }

    @Says("A steady troop that is not gone, that lost something in this turn")
    static void promise6GoneIsNotRouted() {
        CourierWar war = beset(1, 27);
        war.pass(1);
        Check.same("0 of 1", war.troop(0, 4), 2);
        Check.same("routed ones", war.count(3), 0);
        war.pass(1);
        Check.same("it stays gone", war.troop(0, 4), 2);
    }

    @Says("does nothing any more")
    static void promise6GoneOnesDoNotRally() {
        CourierWar war = new CourierWar();
        war.addTroop(0, 39, 1);
        war.addTroop(1, 40, 1);
        war.pass(3);
        Check.same("without an enemy in sight", war.troop(0, 4), 2);
        Check.same("nor the other one", war.troop(1, 4), 2);
    }

    /** Four weak enemies fall on the troop 0 and leave it routed, with 4 of 8. */
    private static CourierWar routedByTheFallen() {
        CourierWar war = new CourierWar();
        war.addTroop(0, 40, 8);
        for (int cell : new int[] {28, 41, 52, 39}) {
            war.addTroop(1, cell, 1);
        }
        war.pass(1);
        Check.same("routed", war.troop(0, 4), 1);
        Check.same("the only one left", war.count(2), 1);
        return war;
    }

    @Says("A routed troop that lost nothing in this turn")
    static void promise6NoRallyInTheTurnOfTheRout() {
        CourierWar war = routedByTheFallen();
        war.pass(1);
        Check.same("in the next one", war.troop(0, 4), 0);
        Check.same("where it fled to", war.troop(0, 1), 39);
    }

    @Says("A routed troop that lost nothing in this turn")
    static void promise6NoRallyInATurnWithALoss() {
        CourierWar war = new CourierWar();
        war.shape(39, 42, 9);
        war.shape(40, 41, 0);
        war.addTroop(0, 40, 20);
        war.addTroop(1, 41, 15);
        war.pass(14);
        Check.same("routed", war.troop(0, 4), 1);
        war.pass(1);
        Check.same("its enemy is gone", war.troop(1, 4), 2);
        Check.same("but it lost something", war.troop(0, 4), 1);
        war.pass(1);
        Check.same("nothing any more", war.troop(0, 4), 0);
    }

    @Says("that lost something in this turn, and whose strength is at most half")
    static void promise6SteadyBelowHalfWithoutALoss() {
        CourierWar war = routedByTheFallen();
        war.pass(2);
        Check.same("4 of 8", war.troop(0, 2), 4);
        Check.same("steady", war.troop(0, 4), 0);
        war.addTroop(1, 38, 20);
        war.pass(1);
        Check.same("routed again by the next loss", war.troop(0, 4), 1);
    }

    @Says("whose cell does not see the cell of any enemy, is steady")
    static void promise6NoRallyInSightOfAnEnemy() {
        CourierWar war = routedByTheFallen();
        war.addTroop(1, 95, 1);
        war.pass(1);
        Check.same("far off", war.troop(0, 4), 1);
        war.shape(94, 94, 9);
        war.shape(82, 83, 9);
        war.pass(1);
        Check.same("out of sight", war.troop(0, 4), 0);
    }

    @Says("whose cell does not see the cell of any enemy, is steady")
    static void promise6NoRallyInSightOfARoutedEnemy() {
        CourierWar war = new CourierWar();
        war.addTroop(0, 39, 2);
        war.addTroop(1, 40, 2);
        war.pass(2);
        Check.same("the first one has fled", war.troop(0, 1), 38);
        Check.same("and is routed", war.troop(0, 4), 1);
        Check.same("the second one has fled", war.troop(1, 1), 41);
        Check.same("and is routed", war.troop(1, 4), 1);
        war.shape(4, 88, 9);
        war.pass(1);
        Check.same("the first one, out of sight", war.troop(0, 4), 0);
        Check.same("the second one, out of sight", war.troop(1, 4), 0);
    }

    @Says("whose cell does not see the cell of any enemy, is steady")
    static void promise6FirstAndLastEnemyInSight() {
        CourierWar first = new CourierWar();
        first.addTroop(1, 28, 20);
        first.addTroop(0, 27, 2);
        first.pass(2);
        Check.same("the troop 0 is in sight", first.troop(1, 4), 1);
        CourierWar last = routedByTheFallen();
        for (int i = 0; i < 6; i++) {
            last.addTroop(0, 84 + i, 1);
        }
        last.addTroop(1, 11, 1);
        Check.same("troops", last.count(1), 12);
        last.pass(1);
        Check.same("the troop 11 is in sight", last.troop(0, 4), 1);
    }

    @Says("whose cell does not see the cell of any enemy, is steady")
    static void promise6TheEnemysCellNotItsGoal() {
        CourierWar war = routedByTheFallen();
        war.shape(72, 73, 9);
        war.shape(85, 85, 9);
        war.addTroop(1, 95, 1);
        war.order(5, 84);
        war.pass(1);
        Check.same("its goal", war.troop(5, 3), 84);
        Check.holds("is not in sight", !war.sees(39, 84));
        Check.same("but it is", war.troop(0, 4), 1);
        CourierWar hidden = routedByTheFallen();
        hidden.addTroop(1, 95, 1);
        hidden.order(5, 90);
        hidden.shape(82, 83, 9);
        hidden.shape(94, 94, 9);
        hidden.pass(1);
        Check.same("its goal", hidden.troop(5, 3), 90);
        Check.holds("is in sight", hidden.sees(39, 90));
        Check.same("but it is not", hidden.troop(0, 4), 0);
    }

    @Says("whose cell does not see the cell of any enemy, is steady")
    static void promise6FriendsInSightDoNotMatter() {
        CourierWar war = routedByTheFallen();
        war.addTroop(0, 95, 1);
        war.pass(1);
        Check.same("of the side 0", war.troop(0, 4), 0);
        CourierWar other = new CourierWar();
        other.addTroop(1, 40, 2);
        other.addTroop(0, 39, 1);
        other.addTroop(1, 0, 1);
        other.pass(2);
        Check.same("of the side 1", other.troop(0, 4), 0);
        Check.same("where it fled to", other.troop(0, 1), 41);
    }

    @Says("enemy (a troop of the other side that is not gone)")
    static void promise6EnemiesGoneInThisTurnDoNotMatter() {
        CourierWar war = routedByTheFallen();
        war.addTroop(1, 95, 1);
        war.addTroop(0, 94, 20);
        war.pass(1);
        Check.same("the one in sight is gone", war.troop(5, 4), 2);
        Check.same("steady", war.troop(0, 4), 0);
    }

    @Says("A routed troop that lost nothing in this turn")
    static void promise6RallyAtTheRim() {
        for (int side = 0; side <= 1; side++) {
            int cell = side == 0 ? 36 : 47;
            CourierWar war = new CourierWar();
            war.addTroop(side, cell, 4);
            war.addTroop(1 - side, cell - 12, 1);
            war.addTroop(1 - side, cell + 12, 1);
            war.pass(1);
            Check.same("routed, side " + side, war.troop(0, 4), 1);
            Scenes.walks(war, 0, cell);
            Check.same("steady where it stayed, side " + side, war.troop(0, 4), 0);
        }
    }

    @Says("is steady, and its goal is its cell")
    static void promise6GoalAfterTheRally() {
        CourierWar war = new CourierWar();
        war.addTroop(0, 27, 2);
        war.addTroop(1, 40, 1);
        war.order(0, 30);
        war.pass(1);
        Check.same("routed at", war.troop(0, 1), 28);
        Check.same("its goal stays", war.troop(0, 3), 30);
        war.pass(1);
        Check.same("steady", war.troop(0, 4), 0);
        Check.same("its cell", war.troop(0, 1), 27);
        Check.same("is its goal", war.troop(0, 3), 27);
        Scenes.walks(war, 0, 27, 27);
    }
}
