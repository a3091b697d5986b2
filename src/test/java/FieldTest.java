/** Promises 1 to 3, 12, 16 and 17: the field, its generals, sight and distance. */
public final class FieldTest {
    private static final Class<IndexOutOfBoundsException> INDEX = IndexOutOfBoundsException.class;
    private static final Class<IllegalArgumentException> ARGUMENT = IllegalArgumentException.class;

    public static void main(String[] args) {
        Check.all(FieldTest.class);
    }

    static void promise1NewObject() {
        CourierWar war = new CourierWar();
        Check.same("NONE", CourierWar.NONE, -1);
        for (int cell = 0; cell < 96; cell++) {
            Check.same("height of " + cell, war.cell(cell, 0), 0);
            Check.same("troop in " + cell, war.cell(cell, 1), CourierWar.NONE);
        }
        for (int what = 0; what <= 11; what++) {
            Check.same("count " + what, war.count(what), 0);
        }
        Check.same("general of the side 1", war.count(12), 95);
        Check.same("saved states", war.count(13), 0);
        Check.same("buffer", war.clearBuffer(), 0);
        Check.same("share", war.strengthLeft(), 1.0);
    }

    static void promise2Shape() {
        CourierWar war = new CourierWar();
        Check.same("a block of 2 by 2", war.shape(13, 26, 5), 4);
        Check.same("the same again", war.shape(13, 26, 5), 0);
        Check.same("one column more", war.shape(13, 27, 5), 2);
        int high = 0;
        for (int cell = 0; cell < 96; cell++) {
            high += war.cell(cell, 0);
        }
        Check.same("all heights together", high, 30);
        Check.same("upper left", war.cell(13, 0), 5);
        Check.same("lower right", war.cell(27, 0), 5);
        Check.same("left of the block", war.cell(24, 0), 0);
        Check.same("right of the block", war.cell(16, 0), 0);
        Check.same("one cell lower", war.shape(14, 14, 0), 1);
        Check.same("lowered", war.cell(14, 0), 0);
        Check.same("one row to its last column", war.shape(84, 95, 9), 12);
        Check.same("the whole field", war.shape(0, 95, 9), 84);
        Check.same("saved", war.count(13), 5);
        CourierWar other = new CourierWar();
        Check.undoable(other, "shape", () -> other.shape(13, 26, 5));
        Check.undoable(other, "shape without change", () -> other.shape(13, 26, 0));
    }

    static void promise2ShapeRefused() {
        CourierWar war = new CourierWar();
        Check.refused(war, "shape(-1, 5, 0)", INDEX, () -> war.shape(-1, 5, 0));
        Check.refused(war, "shape(96, 96, 0)", INDEX, () -> war.shape(96, 96, 0));
        Check.refused(war, "shape(0, -1, 10)", INDEX, () -> war.shape(0, -1, 10));
        Check.refused(war, "shape(0, 96, 0)", INDEX, () -> war.shape(0, 96, 0));
        Check.refused(war, "shape(1, 12, 3)", ARGUMENT, () -> war.shape(1, 12, 3));
        Check.refused(war, "shape(12, 1, 3)", ARGUMENT, () -> war.shape(12, 1, 3));
        Check.refused(war, "shape(0, 0, -1)", ARGUMENT, () -> war.shape(0, 0, -1));
        Check.refused(war, "shape(0, 0, 10)", ARGUMENT, () -> war.shape(0, 0, 10));
        Check.refused(war, "shape at the limits", INDEX,
                () -> war.shape(Integer.MIN_VALUE, Integer.MAX_VALUE, Integer.MIN_VALUE));
    }

    static void promise3MoveGeneral() {
        CourierWar war = new CourierWar();
        Check.same("side 0 from its first cell", war.moveGeneral(0, 40), 0);
        Check.same("side 1 from its first cell", war.moveGeneral(1, 40), 95);
        Check.same("side 0 once more", war.moveGeneral(0, 0), 40);
        Check.same("side 0 stands", war.count(11), 0);
        Check.same("side 1 stands", war.count(12), 40);
        Check.same("to the same cell", war.moveGeneral(1, 40), 40);
        Check.same("saved", war.count(13), 4);
        war.addTroop(0, 40, 5);
        Check.same("to a troop's cell", war.moveGeneral(0, 40), 0);
        CourierWar other = new CourierWar();
        Check.undoable(other, "moveGeneral", () -> other.moveGeneral(1, 7));
        Check.refused(other, "moveGeneral(-1, 0)", INDEX, () -> other.moveGeneral(-1, 0));
        Check.refused(other, "moveGeneral(2, 0)", INDEX, () -> other.moveGeneral(2, 0));
        Check.refused(other, "moveGeneral(0, -1)", INDEX, () -> other.moveGeneral(0, -1));
        Check.refused(other, "moveGeneral(1, 96)", INDEX, () -> other.moveGeneral(1, 96));
    }

    static void promise12Cell() {
        CourierWar war = new CourierWar();
        int[] exits = {0, 2, 11, 2, 84, 2, 95, 2, 5, 3, 12, 3, 23, 3, 90, 3, 13, 4, 82, 4};
        for (int i = 0; i < exits.length; i += 2) {
            Check.same("exits of " + exits[i], war.cell(exits[i], 2), exits[i + 1]);
            Check.same("sight from " + exits[i], war.cell(exits[i], 3), 96);
        }
        war.shape(13, 13, 2);
        Check.same("exits beside a slope", war.cell(1, 2), 3);
        war.shape(13, 13, 3);
        Check.same("exits below a cliff", war.cell(1, 2), 2);
        Check.same("exits above a cliff", war.cell(13, 2), 0);
        war.shape(1, 1, 1);
        Check.same("exits where the cliff is low", war.cell(13, 2), 1);
        war.addTroop(1, 30, 1);
        war.addTroop(0, 31, 20);
        Check.same("troop in 30", war.cell(30, 1), 0);
        Check.same("troop in 31", war.cell(31, 1), 1);
        war.pass(1);
        Check.same("a gone troop is in no cell", war.cell(30, 1), CourierWar.NONE);
        Check.refused(war, "cell(-1, 0)", INDEX, () -> war.cell(-1, 0));
        Check.refused(war, "cell(96, 9)", INDEX, () -> war.cell(96, 9));
        Check.refused(war, "cell(0, -1)", ARGUMENT, () -> war.cell(0, -1));
        Check.refused(war, "cell(0, 4)", ARGUMENT, () -> war.cell(0, 4));
    }

    static void promise12CellsSeen() {
        CourierWar war = new CourierWar();
        war.shape(1, 1, 9);
        war.shape(13, 13, 9);
        war.shape(12, 12, 9);
        Check.same("behind three cliffs", war.cell(0, 3), 4);
        // 9 * n stands against 10 * (n - 1) + 1: the ground is seen from n = 9 on.
        war.shape(0, 0, 9);
        Check.same("as high as the cliffs", war.cell(0, 3), 4 + 3 * 8);
    }

    static void promise16SeesOverWalls() {
        CourierWar war = new CourierWar();
        Check.holds("a cell sees itself", war.sees(5, 5));
        Check.holds("flat", war.sees(0, 95));
        war.shape(1, 1, 1);
        Check.holds("over a height of 1", war.sees(0, 2) && war.sees(2, 0));
        war.shape(1, 1, 2);
        Check.holds("not over a height of 2", !war.sees(0, 2) && !war.sees(2, 0));
        Check.holds("but the height itself", war.sees(0, 1) && war.sees(1, 2));
        war.shape(0, 0, 2);
        Check.holds("from a height of 2 over 2", war.sees(0, 2) && war.sees(2, 0));
        Check.holds("and farther off", war.sees(0, 3) && war.sees(0, 11));
        war.shape(1, 1, 3);
        Check.holds("from a height of 2 not over 3", !war.sees(0, 2) && !war.sees(11, 0));
        war.shape(0, 95, 0);
        war.shape(4, 4, 5);
        war.shape(1, 1, 3);
        // n = 4: 3 * 4 = 12 stands against 1 * 3 + 6 * 1 = 9 beside the low end.
        Check.holds("near the low end", !war.sees(0, 4) && !war.sees(4, 0));
        war.shape(1, 1, 0);
        war.shape(3, 3, 4);
        // 4 * 4 = 16 stands against 1 * 1 + 6 * 3 = 19 beside the high end.
        Check.holds("near the high end", war.sees(0, 4) && war.sees(4, 0));
        war.shape(3, 3, 5);
        Check.holds("too high near the high end", !war.sees(0, 4) && !war.sees(4, 0));
        Check.refused(war, "sees(-1, 0)", INDEX, () -> war.sees(-1, 0));
        Check.refused(war, "sees(96, 0)", INDEX, () -> war.sees(96, 0));
        Check.refused(war, "sees(0, -1)", INDEX, () -> war.sees(0, -1));
        Check.refused(war, "sees(0, 96)", INDEX, () -> war.sees(0, 96));
    }

    static void promise16SeesBesideTheLine() {
        // Each row: a cell, another one, and all cells in between; a cliff anywhere else is not in the way.
        int[][] lines = {
            {0, 14, 13}, {2, 12, 13}, {0, 25, 13}, {1, 24, 13}, {0, 26, 13}, {2, 24, 13}, {0, 36, 12, 24},
            {0, 3, 1, 2}, {0, 15, 1, 14}, {3, 12, 2, 13}, {0, 27, 13, 14}, {0, 13}, {0, 1}, {0, 12}, {1, 12},
            {4, 12, 3, 14, 13}, {0, 16, 1, 14, 15},
        };
        for (int[] line : lines) {
            for (int cliff = 0; cliff < 96; cliff++) {
                if (cliff == line[0] || cliff == line[1]) {
                    continue;
                }
                boolean between = false;
                for (int i = 2; i < line.length; i++) {
                    between |= line[i] == cliff;
                }
                CourierWar war = new CourierWar();
                war.shape(cliff, cliff, 9);
                String what = "a cliff in " + cliff + " between " + line[0] + " and " + line[1];
                Check.same(what, war.sees(line[0], line[1]) ? 1 : 0, between ? 0 : 1);
                Check.same(what + ", back", war.sees(line[1], line[0]) ? 1 : 0, between ? 0 : 1);
            }
        }
    }

    static void promise17Distance() {
        CourierWar war = new CourierWar();
        Check.same("to itself", war.distance(7, 7), 0);
        Check.same("beside", war.distance(7, 8), 1);
        Check.same("no step over the rim", war.distance(11, 12), 12);
        Check.same("from corner to corner", war.distance(0, 95), 18);
        war.addTroop(0, 1, 5);
        war.addTroop(1, 12, 5);
        Check.same("whoever stands there", war.distance(0, 2), 2);
        war.shape(1, 73, 3);
        Check.same("round a wall", war.distance(0, 2), 16);
        Check.same("and back", war.distance(2, 0), 16);
        war.shape(85, 85, 3);
        Check.same("a whole wall", war.distance(0, 2), CourierWar.NONE);
        Check.same("up to the wall", war.distance(0, 1), CourierWar.NONE);
        war.shape(0, 0, 1);
        Check.same("a step up to the wall", war.distance(0, 1), 1);
        war.shape(2, 2, 1);
        Check.same("over the wall", war.distance(0, 2), 2);
        Check.refused(war, "distance(-1, 0)", INDEX, () -> war.distance(-1, 0));
        Check.refused(war, "distance(96, 0)", INDEX, () -> war.distance(96, 0));
        Check.refused(war, "distance(0, -1)", INDEX, () -> war.distance(0, -1));
        Check.refused(war, "distance(0, 96)", INDEX, () -> war.distance(0, 96));
    }
}
