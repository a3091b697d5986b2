/** Wars in the state that several tests begin with. */
final class Scenes {
    private Scenes() {
    }

    /** A ridge of the height 2 down the column 1: no sight over it from the column 0, but a way. */
    static CourierWar ridge() {
        CourierWar war = new CourierWar();
        war.shape(1, 85, 2);
        return war;
    }

    /** A wall of the height 9 down the column 1: no sight over it from the column 0, and no way. */
    static CourierWar wall() {
        CourierWar war = new CourierWar();
        war.shape(1, 85, 9);
        return war;
    }

    /**
     * One way of 95 steps through all cells, from 0 to 11, down and up the columns: each column is a cliff to
     * the next one, but for one cell at its end.
     */
    static CourierWar winding() {
        CourierWar war = new CourierWar();
        int[] heights = {0, 3, 6, 9, 6, 3, 0, 3, 6, 9, 6, 3};
        for (int column = 0; column < 12; column++) {
            war.shape(column, column + 84, heights[column]);
        }
        int[] ramps = {84, 1, 1, 4, 86, 7, 4, 7, 88, 5, 5, 2, 91, 2, 7, 4, 92, 7, 10, 7, 94, 5};
        for (int i = 0; i < ramps.length; i += 2) {
            war.shape(ramps[i], ramps[i], ramps[i + 1]);
        }
        return war;
    }

    /** Two troops that lose 1 each in each of 20 turns, as cliffs let neither of them flee. */
    static CourierWar pit() {
        CourierWar war = new CourierWar();
        war.shape(39, 42, 9);
        war.shape(40, 41, 0);
        war.addTroop(0, 40, 20);
        war.addTroop(1, 41, 20);
        return war;
    }

    /** The troop 0 of the side, routed at the cell; its enemy stands at the other cell and has strength enough. */
    static CourierWar routed(int side, int cell, int enemy) {
        CourierWar war = new CourierWar();
        war.addTroop(side, cell, 2);
        war.addTroop(1 - side, enemy, 20);
        war.pass(1);
        Check.same("routed", war.troop(0, 4), 1);
        return war;
    }

    /** The troop 0 of the side 0 is gone at the cell 50; the troop 1 that beat it stands at the cell 51. */
    static CourierWar gone() {
        CourierWar war = new CourierWar();
        war.addTroop(0, 50, 1);
        war.addTroop(1, 51, 20);
        war.pass(1);
        Check.same("gone", war.troop(0, 4), 2);
        return war;
    }

    /** A troop at the cell 95 on a field with a ridge, and so many orders under way for it, all for the turn 6. */
    static CourierWar ordered(int orders) {
        CourierWar war = ridge();
        war.addTroop(0, 95, 5);
        for (int i = 0; i < orders; i++) {
            war.order(0, 95);
        }
        Check.same("under way", war.count(5), orders);
        return war;
    }

    /** A war whose latest turn is this one; no more than 20 calls. */
    static CourierWar atTurn(int turn) {
        CourierWar war = new CourierWar();
        for (int left = turn; left > 0; left -= 50) {
            war.pass(Math.min(50, left));
        }
        Check.same("the turn", war.count(0), turn);
        return war;
    }

    /** Each single turn brings the troop to the next one of the cells. */
    static void walks(CourierWar war, int troop, int... cells) {
        for (int cell : cells) {
            war.pass(1);
            Check.same("troop " + troop + " in the turn " + war.count(0), war.troop(troop, 1), cell);
        }
    }

    /** Adds a steady troop of the side 0 with an order for the goal, which comes in the next turn. */
    static int send(CourierWar war, int cell, int goal) {
        int number = war.addTroop(0, cell, 9);
        war.moveGeneral(0, cell);
        Check.same("by signal", war.order(number, goal), 1);
        return number;
    }

    /** A war with one troop that is sent from the cell to the goal. */
    static CourierWar sent(int cell, int goal) {
        CourierWar war = new CourierWar();
        send(war, cell, goal);
        return war;
    }
}
