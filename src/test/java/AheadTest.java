/** Promises 19 to 21 and 23: the best post, what is looked ahead, and the digest. */
public final class AheadTest {
    private static final Class<IndexOutOfBoundsException> INDEX = IndexOutOfBoundsException.class;
    private static final Class<IllegalArgumentException> ARGUMENT = IllegalArgumentException.class;

    public static void main(String[] args) {
        Check.all(AheadTest.class);
    }

    static void promise19BestPost() {
        CourierWar war = new CourierWar();
        Check.same("without troops", war.bestPost(0), 0);
        war.addTroop(0, 95, 5);
        Check.same("all is seen", war.bestPost(0), 0);
        war.shape(1, 85, 2);
        Check.same("on the ridge", war.bestPost(0), 1);
        CourierWar near = new CourierWar();
        near.shape(1, 85, 2);
        near.addTroop(0, 4, 5);
        near.addTroop(1, 2, 5);
        Check.same("a courier takes 2 turns to 4", near.bestPost(0), 1);
        Check.same("a courier takes 1 turn to 2", near.bestPost(1), 0);
        Check.same("the others have no troops", war.bestPost(1), 0);
        war.moveGeneral(0, 50);
        Check.same("wherever the general is", war.bestPost(0), 1);
        for (int i = 0; i < 30; i++) {
            war.order(0, 95);
        }
        Check.same("however many orders are under way", war.bestPost(0), 1);
        war.addTroop(1, 94, 20);
        war.pass(6);
        Check.same("gone", war.troop(0, 4), 2);
        Check.same("gone ones do not count", war.bestPost(0), 0);
        Check.same("the other side's", war.bestPost(1), 1);
        Check.refused(war, "bestPost(-1)", INDEX, () -> war.bestPost(-1));
        Check.refused(war, "bestPost(2)", INDEX, () -> war.bestPost(2));
    }

    /** The way is cut at 24: none leads from the troop at 0 to the two others, which are far from each other. */
    static void promise19CountsThoseWithoutAWay() {
        // With 19 turns for those without a way the cell 24 would be best in the first, with 21 the cell 3 in both.
        Check.same("as good as beyond the cut", cut(83).bestPost(0), 3);
        Check.same("better on the cut", cut(47).bestPost(0), 24);
    }

    private static CourierWar cut(int farTroop) {
        CourierWar war = Scenes.winding();
        war.shape(24, 24, 9);
        war.addTroop(0, 0, 5);
        war.addTroop(0, 36, 5);
        war.addTroop(0, farTroop, 5);
        Check.same("no way", war.distance(0, 36), CourierWar.NONE);
        return war;
    }

    static void promise20IfPassed() {
        CourierWar war = new CourierWar();
        war.shape(1, 85, 2);
        war.addTroop(0, 50, 7);
        war.addTroop(1, 62, 4);
        war.addTroop(1, 53, 12);
        war.addTroop(0, 20, 9);
        war.order(2, 52);
        war.order(3, 52);
        war.order(0, 49);
        int[] whats = {2, 3, 6, 7, 8, 9, 10};
        for (int turns = 1; turns <= 50; turns++) {
            CourierWar same = new CourierWar();
            same.shape(1, 85, 2);
            same.addTroop(0, 50, 7);
            same.addTroop(1, 62, 4);
            same.addTroop(1, 53, 12);
            same.addTroop(0, 20, 9);
            same.order(2, 52);
            same.order(3, 52);
            same.order(0, 49);
            same.pass(turns);
            for (int what : whats) {
                Check.same("after " + turns + ", " + what, war.ifPassed(turns, what), same.count(what));
            }
        }
        Check.same("no turn has passed", war.count(0), 0);
        CourierWar late = new CourierWar();
        late.addTroop(0, 40, 20);
        for (int i = 0; i < 20; i++) {
            late.pass(50);
        }
        late.addTroop(1, 41, 20);
        // Both are routed after ten turns, and flee from one another.
        Check.same("beyond the turn 1000", late.ifPassed(50, 7), 10);
        Check.same("one turn beyond", late.ifPassed(1, 9), 19);
        Check.same("still at the last turn", late.count(0), 1000);
    }

    static void promise20Refused() {
        CourierWar war = new CourierWar();
        int[] wrong = {-1, 0, 1, 4, 5, 11, 12, 13, 14};
        for (int what : wrong) {
            Check.refused(war, "ifPassed(1, " + what + ")", ARGUMENT, () -> war.ifPassed(1, what));
        }
        Check.refused(war, "ifPassed(0, 2)", ARGUMENT, () -> war.ifPassed(0, 2));
        Check.refused(war, "ifPassed(-1, 2)", ARGUMENT, () -> war.ifPassed(-1, 2));
        Check.refused(war, "ifPassed(51, 2)", ARGUMENT, () -> war.ifPassed(51, 2));
    }

    static void promise21ArrivesIn() {
        CourierWar war = new CourierWar();
        war.addTroop(0, 13, 5);
        Check.same("is there", war.arrivesIn(0), 0);
        war.order(0, 17);
        Check.same("is at its goal as yet", war.arrivesIn(0), 0);
        war.pass(1);
        Check.same("on its way", war.arrivesIn(0), 3);
        war.order(0, 12);
        Check.same("an order comes in between", war.arrivesIn(0), 2);
        war.undo();
        war.addTroop(0, 17, 5);
        Check.same("the goal is taken", war.arrivesIn(0), CourierWar.NONE);
        war.order(1, 0);
        Check.same("the goal is left", war.arrivesIn(0), 3);
        Check.same("no turn has passed", war.count(0), 1);
        CourierWar gone = new CourierWar();
        gone.addTroop(0, 40, 1);
        gone.addTroop(1, 41, 3);
        Check.same("not gone yet", gone.arrivesIn(0), 0);
        gone.pass(1);
        Check.same("gone at its goal", gone.arrivesIn(0), CourierWar.NONE);
        CourierWar routed = new CourierWar();
        routed.addTroop(0, 27, 2);
        routed.addTroop(1, 28, 20);
        routed.pass(1);
        Check.same("routed at its goal", routed.arrivesIn(0), 0);
        routed.pass(1);
        Check.same("routed away from it", routed.arrivesIn(0), CourierWar.NONE);
        routed.shape(3, 87, 9);
        Check.same("until it rallies out of sight", routed.arrivesIn(0), 1);
    }

    static void promise21LongWays() {
        CourierWar war = Scenes.winding();
        Check.same("the longest way", war.distance(0, 11), 95);
        war.addTroop(0, 0, 5);
        war.moveGeneral(0, 0);
        war.order(0, 11);
        war.pass(34);
        Check.same("61 turns", war.arrivesIn(0), CourierWar.NONE);
        war.pass(1);
        Check.same("60 turns", war.arrivesIn(0), 60);
        war.pass(50);
        Check.same("10 turns", war.arrivesIn(0), 10);
    }

    static void promise21Refused() {
        CourierWar war = new CourierWar();
        war.addTroop(0, 5, 5);
        Check.refused(war, "arrivesIn(-1)", INDEX, () -> war.arrivesIn(-1));
        Check.refused(war, "arrivesIn(1)", INDEX, () -> war.arrivesIn(1));
        Check.refused(war, "arrivesIn(12)", INDEX, () -> war.arrivesIn(12));
    }

    static void promise23Digest() {
        for (int turns = 0; turns <= 8; turns++) {
            int passed = turns;
            Digests.told("after " + turns + " turns", () -> fought(passed), "!~");
        }
        for (int turns = 1; turns <= 22; turns++) {
            int passed = turns;
            Check.same("share after " + turns, inThePit(turns).strengthLeft(), Math.max(0, 20 - turns) / 20.0);
            Digests.told("in the pit after " + turns, () -> inThePit(passed), "");
        }
    }

    private static CourierWar fought(int turns) {
        CourierWar war = new CourierWar();
        Check.type(war, "!~");
        war.shape(1, 85, 2);
        war.shape(40, 40, 7);
        war.addTroop(0, 40, 7);
        war.addTroop(1, 41, 3);
        war.addTroop(0, 95, 20);
        war.order(2, 30);
        war.order(1, 5);
        for (int i = 0; i < turns; i++) {
            war.pass(1);
        }
        return war;
    }

    private static CourierWar inThePit(int turns) {
        CourierWar war = Scenes.pit();
        war.pass(turns);
        return war;
    }
}
