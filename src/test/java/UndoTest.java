/** Promise 11: undo, and which calls save a state. */
public final class UndoTest {
    private static final Class<IllegalStateException> STATE = IllegalStateException.class;

    public static void main(String[] args) {
        Check.all(UndoTest.class);
    }

    static void promise11KeepsFive() {
        CourierWar war = new CourierWar();
        Check.refused(war, "nothing to undo", STATE, () -> war.undo());
        for (int i = 1; i <= 8; i++) {
            war.moveGeneral(0, i);
            Check.same("saved", war.count(13), Math.min(i, 5));
        }
        for (int i = 7; i >= 3; i--) {
            Check.same("left", war.undo(), i - 3);
            Check.same("back at", war.count(11), i);
            Check.same("saved", war.count(13), i - 3);
        }
        Check.refused(war, "all undone", STATE, () -> war.undo());
        war.moveGeneral(0, 50);
        war.moveGeneral(0, 51);
        Check.same("left", war.undo(), 1);
        war.moveGeneral(0, 52);
        Check.same("left", war.undo(), 1);
        Check.same("back at", war.count(11), 50);
        Check.same("left", war.undo(), 0);
        Check.same("back at", war.count(11), 3);
    }

    static void promise11BringsAllBack() {
        CourierWar war = new CourierWar();
        war.shape(1, 85, 2);
        war.addTroop(0, 40, 6);
        war.addTroop(1, 41, 3);
        war.addTroop(0, 95, 9);
        war.order(2, 7);
        war.order(0, 39);
        war.undo();
        war.pass(2);
        war.undo();
        Check.undoable(war, "pass(1)", () -> war.pass(1));
        Check.undoable(war, "pass(20)", () -> war.pass(20));
        Check.undoable(war, "order", () -> war.order(1, 7));
        Check.undoable(war, "shape", () -> war.shape(0, 95, 4));
        Check.undoable(war, "addTroop", () -> war.addTroop(1, 0, 4));
        Check.undoable(war, "moveGeneral", () -> war.moveGeneral(1, 4));
        Check.same("turn", war.count(0), 0);
        Check.same("orders", war.count(5), 1);
        war.undo();
        long before = war.digest();
        war.pass(50);
        war.shape(0, 95, 1);
        war.undo();
        war.undo();
        Check.same("two steps back", war.digest(), before);
        CourierWar routed = new CourierWar();
        routed.addTroop(0, 27, 2);
        routed.addTroop(1, 28, 20);
        routed.pass(1);
        routed.order(0, 30);
        Check.undoable(routed, "pass that loses an order", () -> routed.pass(1));
        Check.same("not lost", routed.count(6), 0);
    }

    static void promise11LeavesTheBuffer() {
        CourierWar war = new CourierWar();
        Check.type(war, "0>1");
        war.moveGeneral(0, 5);
        Check.type(war, ",1");
        war.undo();
        Check.same("the buffer", war.firstError(), 5);
        Check.same("its length", war.clearBuffer(), 5);
        war.moveGeneral(0, 5);
        war.undo();
        Check.same("still clear", war.clearBuffer(), 0);
    }
}
