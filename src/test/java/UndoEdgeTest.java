/** Promise 11, sentence by sentence: no state, five of them and the sixth, and what saves one. */
public final class UndoEdgeTest {
    private static final Class<IllegalStateException> STATE = IllegalStateException.class;

    public static void main(String[] args) {
        Check.all(UndoEdgeTest.class);
    }

    /** A war whose general of the side 0 has gone to each of the cells 1 to this one. */
    private static CourierWar moved(int cell) {
        CourierWar war = new CourierWar();
        for (int i = 1; i <= cell; i++) {
            war.moveGeneral(0, i);
        }
        return war;
    }

    @Says("Throws `IllegalStateException` if there is none")
    static void promise11NoneSaved() {
        CourierWar war = new CourierWar();
        Check.refused(war, "of a new object", STATE, () -> war.undo());
        war.moveGeneral(0, 1);
        Check.same("the only one", war.undo(), 0);
        Check.refused(war, "when all are undone", STATE, () -> war.undo());
        Check.same("as it began", war.count(11), 0);
    }

    @Says("Restores the latest saved state, and drops it.")
    static void promise11OneSaved() {
        CourierWar war = moved(1);
        Check.same("left", war.undo(), 0);
        Check.same("restored", war.count(11), 0);
        Check.same("saved", war.count(13), 0);
    }

    @Says("Returns how many saved states are left.")
    static void promise11FiveSaved() {
        CourierWar war = moved(5);
        Check.same("saved", war.count(13), 5);
        for (int left = 4; left >= 0; left--) {
            Check.same("left", war.undo(), left);
            Check.same("restored", war.count(11), left);
        }
        Check.refused(war, "the sixth", STATE, () -> war.undo());
    }

    @Says("At most 5 states are saved; the oldest one is dropped first.")
    static void promise11SixSaved() {
        CourierWar war = moved(6);
        Check.same("saved", war.count(13), 5);
        for (int left = 4; left >= 0; left--) {
            Check.same("left", war.undo(), left);
            Check.same("restored", war.count(11), left + 1);
        }
        Check.refused(war, "the oldest one", STATE, () -> war.undo());
        Check.same("not as it began", war.count(11), 1);
    }

    @Says("At most 5 states are saved; the oldest one is dropped first.")
    static void promise11ManySaved() {
        CourierWar war = moved(90);
        for (int left = 4; left >= 0; left--) {
            Check.same("left", war.undo(), left);
            Check.same("restored", war.count(11), left + 85);
        }
        Check.refused(war, "the 85 older ones", STATE, () -> war.undo());
    }

    @Says("Restores the latest saved state, and drops it.")
    static void promise11FullAgain() {
        CourierWar war = moved(7);
        war.undo();
        war.undo();
        Check.same("at", war.count(11), 5);
        for (int i = 50; i < 53; i++) {
            war.moveGeneral(0, i);
        }
        Check.same("saved", war.count(13), 5);
        int[] restored = {51, 50, 5, 4, 3};
        for (int i = 0; i < restored.length; i++) {
            Check.same("left", war.undo(), 4 - i);
            Check.same("restored", war.count(11), restored[i]);
        }
    }

    @Says("Each method that is marked \"undoable\" and does not throw an exception saves the state from before it")
    static void promise11EachUndoableCall() {
        CourierWar war = new CourierWar();
        Check.undoable(war, "shape", () -> war.shape(1, 85, 2));
        Check.undoable(war, "moveGeneral", () -> war.moveGeneral(1, 44));
        Check.undoable(war, "addTroop", () -> war.addTroop(1, 44, 4));
        war.addTroop(0, 40, 6);
        war.addTroop(1, 41, 6);
        Check.undoable(war, "order", () -> war.order(0, 4));
        Check.undoable(war, "pass", () -> war.pass(7));
        Check.type(war, "0>4,0");
        Check.same("load", war.load(), 1);
        Check.same("saved", war.count(13), 3);
        Check.same("load undone", war.undo(), 2);
        Check.same("none under way", war.count(5), 0);
    }

    @Says("(also if it changes nothing)")
    static void promise11CallsThatChangeNothing() {
        CourierWar war = new CourierWar();
        war.shape(0, 0, 0);
        Check.same("shape", war.count(13), 1);
        war.moveGeneral(0, 0);
        Check.same("moveGeneral", war.count(13), 2);
        Check.type(war, "0>0,0");
        war.load();
        Check.same("load", war.count(13), 3);
        for (int left = 2; left >= 0; left--) {
            Check.same("left", war.undo(), left);
        }
    }

    @Says("and does not throw an exception saves the state from before it")
    static void promise11CallsThatThrow() {
        CourierWar war = moved(5);
        Check.thrown(() -> war.shape(96, 0, 0));
        Check.thrown(() -> war.shape(1, 0, 0));
        Check.thrown(() -> war.moveGeneral(2, 0));
        Check.thrown(() -> war.addTroop(0, 0, 0));
        Check.thrown(() -> war.order(0, 0));
        Check.thrown(() -> war.pass(51));
        Check.thrown(() -> war.load());
        for (int left = 4; left >= 0; left--) {
            Check.same("left", war.undo(), left);
            Check.same("restored", war.count(11), left);
        }
    }

    @Says("Each method that is marked \"undoable\"")
    static void promise11CallsThatAreNotUndoable() {
        CourierWar war = new CourierWar();
        war.addTroop(0, 4, 5);
        war.order(0, 9);
        war.underWay(0, 3);
        war.append('0');
        war.firstError();
        war.clearBuffer();
        war.cell(0, 3);
        war.troop(0, 7);
        war.count(1);
        war.sees(0, 5);
        war.distance(0, 5);
        war.why(0);
        war.bestPost(0);
        war.ifPassed(9, 7);
        war.arrivesIn(0);
        war.strengthLeft();
        war.digest();
        Check.same("saved", war.count(13), 2);
        Check.same("the order undone", war.undo(), 1);
        Check.same("without the order", war.count(4), 0);
        Check.same("the troop undone", war.undo(), 0);
        Check.same("without the troop", war.count(1), 0);
    }

    @Says("saves the state from before it (also if it changes nothing): all but the buffer and the saved states")
    static void promise11LeavesTheBuffer() {
        CourierWar war = new CourierWar();
        Check.type(war, "0>");
        war.moveGeneral(0, 5);
        Check.type(war, "1,x");
        war.undo();
        Check.same("its length and error", war.firstError(), 4);
        war.moveGeneral(0, 5);
        war.clearBuffer();
        war.undo();
        Check.same("cleared", war.clearBuffer(), 0);
    }

    /** A war in which something of all that a state holds is not as it began. */
    private static CourierWar eventful() {
        CourierWar war = new CourierWar();
        war.shape(1, 85, 2);
        war.shape(28, 28, 1);
        war.moveGeneral(1, 50);
        war.addTroop(0, 40, 8);
        for (int cell : new int[] {28, 41, 52, 39}) {
            war.addTroop(1, cell, 1);
        }
        war.addTroop(0, 95, 9);
        war.order(1, 28);
        war.pass(1);
        war.order(0, 0);
        war.order(5, 7);
        Check.same("routed", war.troop(0, 4), 1);
        Check.same("lost by the side 0", war.count(7), 5);
        Check.same("lost by the side 1", war.count(8), 4);
        return war;
    }

    @Says("all but the buffer and the saved states")
    static void promise11RestoresAll() {
        CourierWar war = eventful();
        war.pass(30);
        war.shape(0, 95, 5);
        war.moveGeneral(0, 3);
        war.moveGeneral(1, 4);
        war.addTroop(1, 60, 20);
        for (int i = 0; i < 5; i++) {
            war.undo();
        }
        war.order(5, 8);
        war.undo();
        Check.same("saved no more", war.count(13), 0);
        CourierWar same = eventful();
        for (int what = 0; what <= 12; what++) {
            Check.same("count " + what, war.count(what), same.count(what));
        }
        for (int troop = 0; troop < 6; troop++) {
            for (int what = 0; what <= 8; what++) {
                Check.same("troop " + troop + ", " + what, war.troop(troop, what), same.troop(troop, what));
            }
        }
        for (int place = 0; place < 2; place++) {
            for (int what = 0; what <= 3; what++) {
                Check.same("order " + place + ", " + what, war.underWay(place, what), same.underWay(place, what));
            }
        }
        for (int cell = 0; cell < 96; cell++) {
            Check.same("the height of " + cell, war.cell(cell, 0), same.cell(cell, 0));
        }
    }

    @Says("Restores the latest saved state, and drops it.")
    static void promise11IsNotUndoneItself() {
        CourierWar war = moved(2);
        war.undo();
        Check.same("not back to the cell 2", war.undo(), 0);
        Check.same("but to the first one", war.count(11), 0);
    }
}
