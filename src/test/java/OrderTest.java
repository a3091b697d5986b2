/** Promises 5, 14 and 18: orders, those under way, and why one can't be given. */
public final class OrderTest {
    private static final Class<IndexOutOfBoundsException> INDEX = IndexOutOfBoundsException.class;
    private static final Class<IllegalArgumentException> ARGUMENT = IllegalArgumentException.class;
    private static final Class<IllegalStateException> STATE = IllegalStateException.class;

    public static void main(String[] args) {
        Check.all(OrderTest.class);
    }

    static void promise5BySignal() {
        CourierWar war = new CourierWar();
        war.addTroop(0, 95, 5);
        war.addTroop(1, 0, 5);
        Check.same("far, but seen by the side 0", war.order(0, 3), 1);
        Check.same("far, but seen by the side 1", war.order(1, 3), 1);
        CourierWar walled = Scenes.wall();
        walled.addTroop(0, 1, 5);
        Check.same("seen on the wall, without a way", walled.order(0, 95), 1);
        Check.same("to a goal without a way", walled.order(0, 0), 1);
    }

    static void promise5ByCourier() {
        int[] turns = {1, 1, 2, 1, 3, 1, 4, 2, 5, 2, 6, 2, 7, 3, 9, 3, 10, 4, 11, 4, 95, 6, 0, 1, 84, 1};
        for (int i = 0; i < turns.length; i += 2) {
            CourierWar war = Scenes.ridge();
            war.addTroop(0, turns[i], 5);
            Check.same("a courier to " + turns[i], war.order(0, 40), turns[i + 1]);
            Check.same("comes in the turn", war.underWay(0, 3), turns[i + 1]);
            Check.same("given", war.count(4), 1);
        }
        CourierWar war = Scenes.ridge();
        war.addTroop(1, 12, 5);
        war.addTroop(0, 14, 5);
        war.addTroop(0, 11, 5);
        Check.same("from the general of the side 1", war.order(0, 40), 6);
        Check.same("from the general of the side 0, past the others", war.order(2, 40), 4);
    }

    static void promise5AsTheTroopStandsNow() {
        CourierWar war = Scenes.ridge();
        war.addTroop(0, 95, 5);
        Check.same("far off", war.order(0, 94), 6);
        war.moveGeneral(0, 94);
        Check.same("from a new post", war.order(0, 83), 1);
        war.pass(5);
        Check.same("the first one is still under way", war.count(5), 1);
        Check.same("the second one has come", war.troop(0, 1), 83);
        war.pass(1);
        Check.same("the first one came late", war.troop(0, 3), 94);
    }

    static void promise5Comes() {
        CourierWar war = Scenes.ridge();
        war.addTroop(0, 4, 5);
        war.pass(3);
        Check.same("takes", war.order(0, 6), 2);
        Check.same("comes in the turn", war.underWay(0, 3), 5);
        war.pass(1);
        Check.same("not yet", war.troop(0, 3), 4);
        Check.same("it waits", war.troop(0, 1), 4);
        war.pass(1);
        Check.same("come", war.troop(0, 3), 6);
        Check.same("it marches at once", war.troop(0, 1), 5);
        Check.same("counted", war.troop(0, 8), 1);
        Check.same("no more under way", war.count(5), 0);
        Check.same("none lost", war.count(6), 0);
    }

    static void promise5Undoable() {
        CourierWar war = Scenes.ridge();
        war.addTroop(0, 4, 5);
        Check.undoable(war, "order", () -> war.order(0, 6));
        Check.undoable(war, "order to stay", () -> war.order(0, 4));
        war.order(0, 6);
        war.undo();
        war.order(0, 7);
        Check.same("the number is given anew", war.underWay(0, 0), 0);
    }

    static void promise5Refused() {
        CourierWar war = Scenes.wall();
        war.addTroop(0, 2, 5);
        war.addTroop(1, 50, 1);
        war.addTroop(0, 51, 20);
        war.pass(1);
        Check.refused(war, "no way and no sight", STATE, () -> war.order(0, 3));
        Check.refused(war, "gone", STATE, () -> war.order(1, 3));
        Check.refused(war, "troop -1", INDEX, () -> war.order(-1, 3));
        Check.refused(war, "troop 3", INDEX, () -> war.order(3, 3));
        Check.refused(war, "cell -1 for a gone one", INDEX, () -> war.order(1, -1));
        Check.refused(war, "cell 96 without a way", INDEX, () -> war.order(0, 96));
    }

    static void promise5ThirtyUnderWay() {
        CourierWar war = Scenes.ridge();
        war.addTroop(0, 95, 5);
        for (int i = 0; i < 30; i++) {
            Check.same("could be given", war.why(0), 0);
            war.order(0, 95);
        }
        Check.same("under way", war.count(5), 30);
        Check.same("for the troop", war.troop(0, 7), 30);
        Check.refused(war, "the 31st", STATE, () -> war.order(0, 95));
        Check.same("why", war.why(0), 3);
        Check.refused(war, "the 31st to no cell", INDEX, () -> war.order(0, 96));
        war.pass(6);
        Check.same("all have come", war.troop(0, 8), 30);
        Check.same("given again", war.order(0, 95), 6);
        Check.same("its number", war.underWay(0, 0), 30);
    }

    static void promise14UnderWay() {
        CourierWar war = Scenes.ridge();
        int[] cells = {7, 3, 19, 4};
        for (int cell : cells) {
            war.addTroop(0, cell, 5);
        }
        war.order(0, 90);
        war.order(1, 91);
        war.order(2, 92);
        war.order(3, 93);
        war.order(1, 94);
        checkOrders(war, new int[][] {{1, 1, 91, 1}, {4, 1, 94, 1}, {3, 3, 93, 2}, {0, 0, 90, 3}, {2, 2, 92, 3}});
        war.pass(1);
        Check.same("the later number comes last", war.troop(1, 3), 94);
        Check.same("both came", war.troop(1, 8), 2);
        war.order(3, 0);
        checkOrders(war, new int[][] {{3, 3, 93, 2}, {0, 0, 90, 3}, {2, 2, 92, 3}, {5, 3, 0, 3}});
        war.pass(1);
        checkOrders(war, new int[][] {{0, 0, 90, 3}, {2, 2, 92, 3}, {5, 3, 0, 3}});
        war.pass(1);
        checkOrders(war, new int[][] {});
    }

    private static void checkOrders(CourierWar war, int[][] due) {
        Check.same("orders under way", war.count(5), due.length);
        for (int place = 0; place < due.length; place++) {
            for (int what = 0; what <= 3; what++) {
                Check.same("order at " + place + ", " + what, war.underWay(place, what), due[place][what]);
            }
        }
        Check.same("no order behind", Check.thrown(() -> war.underWay(due.length, 0)) == INDEX ? 1 : 0, 1);
    }

    static void promise14Refused() {
        CourierWar war = Scenes.ridge();
        Check.refused(war, "none at all", INDEX, () -> war.underWay(0, 0));
        war.addTroop(0, 5, 5);
        war.order(0, 5);
        Check.refused(war, "place -1", INDEX, () -> war.underWay(-1, 0));
        Check.refused(war, "place 1", INDEX, () -> war.underWay(1, 9));
        Check.refused(war, "place 30", INDEX, () -> war.underWay(30, 0));
        Check.refused(war, "what -1", ARGUMENT, () -> war.underWay(0, -1));
        Check.refused(war, "what 4", ARGUMENT, () -> war.underWay(0, 4));
    }

    static void promise18Why() {
        CourierWar war = Scenes.wall();
        war.addTroop(0, 2, 5);
        war.addTroop(1, 50, 1);
        war.addTroop(0, 51, 20);
        war.addTroop(0, 0, 5);
        Check.same("no way", war.why(0), 2);
        Check.same("seen", war.why(1), 0);
        Check.same("its general has a way", war.why(3), 0);
        war.pass(1);
        Check.same("gone", war.why(1), 1);
        for (int i = 0; i < 30; i++) {
            war.order(3, 0);
        }
        Check.same("thirty under way", war.why(3), 3);
        Check.same("no way comes before", war.why(0), 2);
        Check.same("gone comes before", war.why(1), 1);
        war.moveGeneral(0, 1);
        Check.same("seen from the wall", war.why(0), 3);
        Check.refused(war, "why(-1)", INDEX, () -> war.why(-1));
        Check.refused(war, "why(4)", INDEX, () -> war.why(4));
    }
}
