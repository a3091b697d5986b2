/** Promises 4, 13, 15 and 22: troops, their properties, what is counted, and the share that is left. */
public final class TroopTest {
    private static final Class<IndexOutOfBoundsException> INDEX = IndexOutOfBoundsException.class;
    private static final Class<IllegalArgumentException> ARGUMENT = IllegalArgumentException.class;
    private static final Class<IllegalStateException> STATE = IllegalStateException.class;

    public static void main(String[] args) {
        Check.all(TroopTest.class);
    }

    static void promise4AddTroop() {
        CourierWar war = new CourierWar();
        Check.same("the first number", war.addTroop(1, 95, 1), 0);
        Check.same("the second number", war.addTroop(0, 94, 20), 1);
        Check.same("troops", war.count(1), 2);
        war.pass(1);
        Check.same("gone", war.troop(0, 4), 2);
        Check.same("to the cell of a gone troop", war.addTroop(0, 95, 20), 2);
        Check.same("saved", war.count(13), 4);
        CourierWar other = new CourierWar();
        Check.undoable(other, "addTroop", () -> other.addTroop(0, 7, 7));
        Check.same("undone troops", other.count(1), 0);
    }

    static void promise4Full() {
        CourierWar war = new CourierWar();
        for (int i = 0; i < 12; i++) {
            Check.same("number", war.addTroop(i % 2, 5 * i, 1), i);
        }
        Check.refused(war, "a troop too many", STATE, () -> war.addTroop(0, 90, 1));
        Check.refused(war, "too many and too strong", ARGUMENT, () -> war.addTroop(0, 90, 21));
        for (int i = 0; i < 12; i++) {
            Check.same("all can be asked", war.troop(i, 0), i % 2);
            Check.same("all can be ordered", war.order(i, 95 - i), 1);
            Check.same("all are at their goals", war.arrivesIn(i), 0);
        }
        Check.same("the best post for six", war.bestPost(1), 0);
        war.pass(50);
        Check.same("the orders have come", war.count(5), 0);
        CourierWar fallen = new CourierWar();
        for (int i = 0; i < 12; i++) {
            fallen.addTroop(i % 2, i, 1);
        }
        fallen.pass(1);
        Check.same("all are gone", fallen.count(2), 0);
        Check.refused(fallen, "gone troops keep their numbers", STATE, () -> fallen.addTroop(0, 90, 1));
    }

    static void promise4Refused() {
        CourierWar war = new CourierWar();
        war.addTroop(0, 50, 4);
        Check.refused(war, "side -1", INDEX, () -> war.addTroop(-1, 0, 1));
        Check.refused(war, "side 2", INDEX, () -> war.addTroop(2, 0, 0));
        Check.refused(war, "cell -1", INDEX, () -> war.addTroop(0, -1, 21));
        Check.refused(war, "cell 96", INDEX, () -> war.addTroop(0, 96, 1));
        Check.refused(war, "strength 0", ARGUMENT, () -> war.addTroop(0, 50, 0));
        Check.refused(war, "strength 21", ARGUMENT, () -> war.addTroop(0, 0, 21));
        Check.refused(war, "a cell that is taken", STATE, () -> war.addTroop(0, 50, 4));
        Check.refused(war, "a cell that an enemy has", STATE, () -> war.addTroop(1, 50, 4));
    }

    static void promise13Troop() {
        CourierWar war = new CourierWar();
        war.addTroop(1, 95, 13);
        int[] due = {1, 95, 13, 95, 0, 13, 0, 0, 0};
        for (int what = 0; what <= 8; what++) {
            Check.same("property " + what, war.troop(0, what), due[what]);
        }
        Check.refused(war, "troop -1", INDEX, () -> war.troop(-1, 0));
        Check.refused(war, "troop 1", INDEX, () -> war.troop(1, 9));
        Check.refused(war, "what -1", ARGUMENT, () -> war.troop(0, -1));
        Check.refused(war, "what 9", ARGUMENT, () -> war.troop(0, 9));
    }

    static void promise13OrdersAndLosses() {
        CourierWar war = new CourierWar();
        war.addTroop(0, 40, 5);
        war.addTroop(1, 41, 2);
        war.order(0, 40);
        war.order(0, 40);
        war.order(1, 41);
        Check.same("orders for 0", war.troop(0, 7), 2);
        Check.same("orders for 1", war.troop(1, 7), 1);
        war.pass(1);
        int[] first = {0, 40, 4, 40, 0, 5, 1, 0, 2};
        int[] second = {1, 41, 1, 41, 1, 2, 1, 0, 1};
        for (int what = 0; what <= 8; what++) {
            Check.same("troop 0, " + what, war.troop(0, what), first[what]);
            Check.same("troop 1, " + what, war.troop(1, what), second[what]);
        }
        war.order(1, 5);
        Check.same("under way for a routed one", war.troop(1, 7), 1);
        war.pass(1);
        int[] fled = {1, 42, 1, 41, 1, 2, 0, 0, 1};
        for (int what = 0; what <= 8; what++) {
            Check.same("fled, " + what, war.troop(1, what), fled[what]);
        }
        Check.same("the other lost nothing in the latest turn", war.troop(0, 6), 0);
        war.addTroop(0, 0, 3);
        Check.same("a new one lost nothing", war.troop(2, 6), 0);
    }

    static void promise15Count() {
        CourierWar war = new CourierWar();
        war.shape(39, 39, 1);
        war.addTroop(0, 40, 9);
        war.addTroop(1, 41, 2);
        war.addTroop(1, 39, 1);
        war.moveGeneral(0, 3);
        war.order(2, 39);
        war.order(0, 40);
        war.pass(1);
        // Troop 0 loses 3 of 9, troop 1 loses 1 of 2 and is routed, troop 2 is gone.
        check(war, 1, 3, 2, 1, 2, 0, 0, 3, 2, 6, 1, 3, 95, 5);
        war.order(0, 52);
        war.order(1, 11);
        check(war, 1, 3, 2, 1, 4, 2, 0, 3, 2, 6, 1, 3, 95, 5);
        war.pass(1);
        check(war, 2, 3, 2, 1, 4, 0, 1, 3, 2, 6, 1, 3, 95, 5);
        Check.refused(war, "count(-1)", ARGUMENT, () -> war.count(-1));
        Check.refused(war, "count(14)", ARGUMENT, () -> war.count(14));
    }

    private static void check(CourierWar war, int... due) {
        for (int what = 0; what <= 13; what++) {
            Check.same("count " + what, war.count(what), due[what]);
        }
    }

    static void promise22StrengthLeft() {
        CourierWar war = new CourierWar();
        Check.same("without troops", war.strengthLeft(), 1.0);
        war.addTroop(0, 40, 5);
        war.addTroop(1, 41, 2);
        Check.same("at first", war.strengthLeft(), 1.0);
        war.pass(1);
        Check.same("after a fight", war.strengthLeft(), 5.0 / 7.0);
        CourierWar both = new CourierWar();
        both.addTroop(0, 0, 1);
        both.addTroop(1, 1, 1);
        both.pass(1);
        Check.same("when all are gone", both.strengthLeft(), 0.0);
        both.addTroop(1, 1, 1);
        Check.same("gone ones count at first", both.strengthLeft(), 1.0 / 3.0);
    }
}
