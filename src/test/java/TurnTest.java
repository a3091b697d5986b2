/** Promise 6: what happens in a turn. */
public final class TurnTest {
    private static final Class<IllegalArgumentException> ARGUMENT = IllegalArgumentException.class;
    private static final Class<IllegalStateException> STATE = IllegalStateException.class;

    public static void main(String[] args) {
        Check.all(TurnTest.class);
    }

    static void promise6Passes() {
        CourierWar war = new CourierWar();
        war.addTroop(0, 40, 20);
        war.addTroop(1, 41, 20);
        Check.same("lost in a turn", war.pass(1), 2);
        Check.same("lost in three turns", war.pass(3), 6);
        Check.same("the turn", war.count(0), 4);
        Check.undoable(war, "pass", () -> war.pass(50));
    }

    static void promise6Refused() {
        CourierWar war = new CourierWar();
        Check.refused(war, "pass(0)", ARGUMENT, () -> war.pass(0));
        Check.refused(war, "pass(-1)", ARGUMENT, () -> war.pass(-1));
        Check.refused(war, "pass(51)", ARGUMENT, () -> war.pass(51));
        for (int i = 0; i < 19; i++) {
            war.pass(50);
        }
        war.pass(1);
        Check.refused(war, "to the turn 1001", STATE, () -> war.pass(50));
        Check.same("to the turn 1000", war.pass(49), 0);
        Check.same("the last turn", war.count(0), 1000);
        Check.refused(war, "behind the last turn", STATE, () -> war.pass(1));
        Check.refused(war, "51 behind the last turn", ARGUMENT, () -> war.pass(51));
        Check.refused(war, "very many", ARGUMENT, () -> war.pass(Integer.MAX_VALUE));
    }

    static void promise6MarchesByTheOrderOfNeighbours() {
        Scenes.walks(Scenes.sent(39, 14), 0, 27, 15, 14, 14);
        Scenes.walks(Scenes.sent(39, 16), 0, 27, 15, 16, 16);
        Scenes.walks(Scenes.sent(39, 64), 0, 40, 52, 64, 64);
        Scenes.walks(Scenes.sent(39, 62), 0, 51, 63, 62, 62);
        Scenes.walks(Scenes.sent(39, 38), 0, 38, 38);
        Scenes.walks(Scenes.sent(11, 24), 0, 23, 35, 34, 33);
    }

    static void promise6MarchesRoundOthers() {
        CourierWar war = Scenes.sent(0, 2);
        war.addTroop(0, 1, 9);
        Scenes.walks(war, 0, 12, 13, 14, 2, 2);
        CourierWar before = new CourierWar();
        before.addTroop(0, 1, 9);
        Scenes.walks(before, Scenes.send(before, 0, 2), 12, 13, 14, 2);
        CourierWar enemies = Scenes.sent(0, 3);
        enemies.addTroop(1, 2, 9);
        Scenes.walks(enemies, 0, 1);
        CourierWar shut = Scenes.sent(0, 2);
        shut.addTroop(0, 1, 9);
        shut.addTroop(0, 12, 9);
        Scenes.walks(shut, 0, 0, 0);
    }

    static void promise6MarchesToATakenGoal() {
        CourierWar beside = Scenes.sent(0, 1);
        beside.addTroop(0, 1, 9);
        Scenes.walks(beside, 0, 0, 0);
        CourierWar nearer = Scenes.sent(0, 3);
        nearer.addTroop(0, 3, 9);
        Scenes.walks(nearer, 0, 1, 2, 2, 2);
        nearer.order(1, 4);
        Scenes.walks(nearer, 0, 2, 3, 3);
    }

    static void promise6MarchesByNumbers() {
        CourierWar war = new CourierWar();
        Scenes.send(war, 0, 2);
        Scenes.send(war, 1, 3);
        war.pass(1);
        Check.same("the first one goes round the second one", war.troop(0, 1), 12);
        Check.same("the second one goes on", war.troop(1, 1), 2);
        CourierWar other = new CourierWar();
        Scenes.send(other, 1, 3);
        Scenes.send(other, 0, 2);
        other.pass(1);
        Check.same("the first one goes on", other.troop(0, 1), 2);
        Check.same("the second one comes behind", other.troop(1, 1), 1);
    }

    static void promise6MarchesOverNoCliff() {
        CourierWar war = Scenes.sent(0, 2);
        war.shape(1, 1, 3);
        Scenes.walks(war, 0, 12, 13, 14, 2);
        CourierWar slope = Scenes.sent(0, 2);
        slope.shape(1, 1, 2);
        Scenes.walks(slope, 0, 1, 2);
        CourierWar shut = Scenes.sent(0, 2);
        shut.shape(0, 0, 3);
        Scenes.walks(shut, 0, 0, 0);
        CourierWar apart = Scenes.sent(0, 95);
        apart.shape(5, 89, 9);
        Scenes.walks(apart, 0, 0, 0);
        // One least way is shut by a cliff to the first neighbour, the other one is open.
        CourierWar first = Scenes.sent(13, 26);
        first.shape(14, 14, 3);
        Scenes.walks(first, 0, 25, 26);
    }

    static void promise6MarchesThroughWhereAGoneTroopWas() {
        CourierWar war = Scenes.sent(0, 2);
        war.addTroop(1, 1, 1);
        // From 13 the cell 1 comes before 14, now that its troop is gone.
        Scenes.walks(war, 0, 12, 13, 1, 2);
        Check.same("the other one is gone", war.troop(1, 4), 2);
        CourierWar fallen = Scenes.sent(0, 0);
        fallen.addTroop(1, 1, 1);
        fallen.pass(1);
        fallen.order(0, 2);
        Scenes.walks(fallen, 0, 1, 2);
    }

    static void promise6Fights() {
        CourierWar war = new CourierWar();
        war.addTroop(0, 40, 20);
        war.addTroop(1, 28, 20);
        war.addTroop(1, 41, 20);
        war.addTroop(1, 52, 20);
        war.addTroop(1, 39, 20);
        war.addTroop(1, 27, 20);
        war.addTroop(0, 29, 20);
        Check.same("all losses", war.pass(1), 4 + 2 + 2 + 1 + 1 + 0 + 2);
        int[] lost = {4, 2, 2, 1, 1, 0, 2};
        for (int troop = 0; troop < lost.length; troop++) {
            Check.same("troop " + troop + " lost", war.troop(troop, 6), lost[troop]);
            Check.same("troop " + troop + " has", war.troop(troop, 2), 20 - lost[troop]);
        }
        Check.same("side 0 lost", war.count(7), 6);
        Check.same("side 1 lost", war.count(8), 6);
        CourierWar rim = new CourierWar();
        rim.addTroop(0, 11, 20);
        rim.addTroop(1, 12, 20);
        Check.same("no neighbours over the rim", rim.pass(1), 0);
    }

    static void promise6FightsOnHeights() {
        CourierWar war = new CourierWar();
        war.shape(41, 41, 1);
        war.addTroop(0, 40, 20);
        war.addTroop(1, 41, 20);
        war.pass(1);
        Check.same("below", war.troop(0, 6), 2);
        Check.same("above", war.troop(1, 6), 1);
        war.shape(41, 41, 9);
        war.pass(1);
        Check.same("below a cliff", war.troop(0, 6), 2);
        Check.same("above a cliff", war.troop(1, 6), 1);
        war.shape(40, 40, 9);
        war.pass(1);
        Check.same("as high", war.troop(0, 6), 1);
    }

    static void promise6FightsAllAtOnce() {
        CourierWar war = new CourierWar();
        war.shape(41, 41, 1);
        war.addTroop(0, 40, 1);
        war.addTroop(1, 41, 1);
        war.addTroop(0, 42, 2);
        Check.same("not more than they have", war.pass(1), 1 + 1 + 2);
        for (int troop = 0; troop < 3; troop++) {
            Check.same("gone", war.troop(troop, 4), 2);
            Check.same("without strength", war.troop(troop, 2), 0);
            Check.same("in its cell", war.troop(troop, 1), 40 + troop);
        }
        Check.same("no more losses", war.pass(1), 0);
        Check.same("nothing lost in the latest turn", war.troop(0, 6), 0);
        Check.same("still gone", war.troop(0, 4), 2);
    }

    static void promise6IsRouted() {
        int[] turns = {2, 1, 3, 2, 4, 2, 5, 3, 20, 10};
        for (int i = 0; i < turns.length; i += 2) {
            CourierWar war = new CourierWar();
            war.addTroop(0, 41, turns[i]);
            war.addTroop(1, 42, 20);
            for (int turn = 1; turn < turns[i + 1]; turn++) {
                war.pass(1);
                Check.same(turns[i] + " is steady in " + turn, war.troop(0, 4), 0);
            }
            war.pass(1);
            Check.same(turns[i] + " is routed in " + turns[i + 1], war.troop(0, 4), 1);
            Check.same("its goal stays", war.troop(0, 3), 41);
        }
        CourierWar war = new CourierWar();
        war.addTroop(0, 41, 1);
        war.addTroop(1, 42, 20);
        war.pass(1);
        Check.same("without strength it is gone, not routed", war.troop(0, 4), 2);
    }

    static void promise6FleesToItsSide() {
        Scenes.walks(Scenes.routed(0, 27, 28), 0, 26, 25, 24, 24);
        Scenes.walks(Scenes.routed(1, 20, 19), 0, 21, 22, 23, 23);
    }

    static void promise6FleesOnlyWhereItCan() {
        CourierWar taken = Scenes.routed(0, 27, 39);
        taken.addTroop(0, 26, 20);
        Scenes.walks(taken, 0, 27);
        Check.same("caught", taken.troop(0, 4), 2);
        CourierWar cliff = Scenes.routed(0, 27, 28);
        cliff.shape(26, 26, 3);
        Scenes.walks(cliff, 0, 27);
        CourierWar slope = Scenes.routed(0, 27, 28);
        slope.shape(26, 26, 2);
        Scenes.walks(slope, 0, 26);
        CourierWar rim = Scenes.routed(0, 24, 25);
        Scenes.walks(rim, 0, 24);
        CourierWar otherRim = Scenes.routed(1, 23, 22);
        Scenes.walks(otherRim, 0, 23);
        CourierWar fallen = new CourierWar();
        fallen.addTroop(0, 40, 2);
        fallen.addTroop(1, 41, 20);
        fallen.addTroop(0, 39, 1);
        fallen.addTroop(1, 38, 20);
        fallen.addTroop(1, 51, 20);
        fallen.pass(1);
        Check.same("a gone troop beside", fallen.troop(2, 4), 2);
        Scenes.walks(fallen, 0, 39);
    }

    static void promise6Rallies() {
        CourierWar war = Scenes.routed(0, 27, 28);
        war.order(1, 31);
        war.pass(1);
        Check.same("an enemy in sight", war.troop(0, 4), 1);
        war.shape(3, 87, 9);
        war.pass(1);
        Check.same("steady behind the wall", war.troop(0, 4), 0);
        Check.same("its cell", war.troop(0, 1), 25);
        Check.same("is its goal", war.troop(0, 3), 25);
        CourierWar cliff = Scenes.routed(0, 27, 28);
        cliff.shape(28, 28, 9);
        cliff.pass(1);
        Check.same("an enemy in sight on a cliff", cliff.troop(0, 4), 1);
        CourierWar won = new CourierWar();
        won.addTroop(0, 27, 4);
        won.addTroop(1, 28, 1);
        won.addTroop(1, 26, 1);
        won.addTroop(0, 0, 20);
        won.pass(1);
        Check.same("routed when the enemies fell", won.troop(0, 4), 1);
        won.order(0, 95);
        won.pass(1);
        Check.same("only friends in sight", won.troop(0, 4), 0);
        Check.same("where it stands", won.troop(0, 3), 26);
        Check.same("the order was lost", won.count(6), 1);
        won.pass(1);
        Check.same("it stays", won.troop(0, 1), 26);
        Check.same("and steady, as it lost nothing again", won.troop(0, 4), 0);
        CourierWar other = new CourierWar();
        other.addTroop(1, 20, 4);
        other.addTroop(0, 8, 1);
        other.addTroop(0, 32, 1);
        Check.same("lost", other.pass(1), 4);
        Check.same("routed at", 10 * other.troop(0, 1) + other.troop(0, 4), 201);
        other.pass(1);
        Check.same("steady at", 10 * other.troop(0, 1) + other.troop(0, 4), 210);
    }

    static void promise6LosesOrders() {
        CourierWar war = Scenes.routed(0, 27, 28);
        war.order(0, 95);
        war.pass(1);
        Check.same("lost on a routed one", war.count(6), 1);
        Check.same("its goal", war.troop(0, 3), 27);
        Check.same("none came", war.troop(0, 8), 0);
        CourierWar dying = new CourierWar();
        dying.shape(1, 85, 2);
        dying.addTroop(0, 4, 1);
        dying.addTroop(1, 5, 9);
        Check.same("a courier's turns", dying.order(0, 9), 2);
        dying.pass(1);
        Check.same("gone", dying.troop(0, 4), 2);
        Check.same("still under way", dying.troop(0, 7), 1);
        dying.pass(1);
        Check.same("lost on a gone one", dying.count(6), 1);
        Check.same("none came", dying.troop(0, 8), 0);
        Check.same("none under way", dying.count(5), 0);
        Check.same("its goal stays", dying.troop(0, 3), 4);
    }
}
