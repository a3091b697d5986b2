/** Promises 1 to 3, 12, 16 and 17, sentence by sentence: where the field, its sight and its ways end. */
public final class FieldEdgeTest {
    private static final Class<IndexOutOfBoundsException> INDEX = IndexOutOfBoundsException.class;
    private static final Class<IllegalArgumentException> ARGUMENT = IllegalArgumentException.class;
    private static final Class<IllegalStateException> STATE = IllegalStateException.class;
    private static final int[] NO_CELL = {-1, 96, Integer.MIN_VALUE, Integer.MAX_VALUE};
    private static final int[] NO_SIDE = {-1, 2, Integer.MIN_VALUE, Integer.MAX_VALUE};

    public static void main(String[] args) {
        Check.all(FieldEdgeTest.class);
    }

    // ---- promise 1

    @Says("Each cell has a height, 0 to 9, at first 0.")
    static void promise1FlatField() {
        CourierWar war = new CourierWar();
        for (int cell = 0; cell < 96; cell++) {
            Check.same("the height of " + cell, war.cell(cell, 0), 0);
        }
    }

    @Says("Creates a flat field without troops")
    static void promise1NoTroops() {
        CourierWar war = new CourierWar();
        Check.same("troops", war.count(1), 0);
        Check.same("troops that are not gone", war.count(2), 0);
        Check.same("in the first cell", war.cell(0, 1), CourierWar.NONE);
        Check.same("in the last cell", war.cell(95, 1), CourierWar.NONE);
        Check.refused(war, "no troop 0", INDEX, () -> war.troop(0, 0));
    }

    @Says("with an empty buffer")
    static void promise1EmptyBuffer() {
        CourierWar war = new CourierWar();
        Check.same("no error in it", war.firstError(), 0);
        Check.same("its length", war.clearBuffer(), 0);
        Check.same("the first character", war.append(33), 1);
    }

    @Says("The general of the side 0 is at first at the cell 0, that of the side 1 at the cell 95")
    static void promise1Generals() {
        CourierWar war = new CourierWar();
        Check.same("of the side 0", war.count(11), 0);
        Check.same("of the side 1", war.count(12), 95);
    }

    @Says("The number of the turn increases by 1 (at first it is 0).")
    static void promise1FirstTurn() {
        Check.same("the turn", new CourierWar().count(0), 0);
    }

    @Says("Creates a flat field without troops")
    static void promise1NothingHasHappened() {
        CourierWar war = new CourierWar();
        Check.same("orders given", war.count(4), 0);
        Check.same("orders under way", war.count(5), 0);
        Check.same("orders lost", war.count(6), 0);
        Check.same("lost by the side 0", war.count(7), 0);
        Check.same("lost by the side 1", war.count(8), 0);
        Check.same("saved states", war.count(13), 0);
        Check.refused(war, "nothing to undo", STATE, () -> war.undo());
    }

    @Says("`NONE = -1`: There is nothing to return.")
    static void promise1None() {
        Check.same("NONE", CourierWar.NONE, -1);
    }

    @Says("Creates a flat field without troops")
    static void promise1ObjectsShareNothing() {
        CourierWar one = new CourierWar();
        long before = one.digest();
        CourierWar other = Scenes.gone();
        other.shape(0, 95, 9);
        other.moveGeneral(0, 44);
        other.order(1, 0);
        other.append(48);
        Check.same("the other one's calls", one.digest(), before);
        Check.same("a third one begins anew", new CourierWar().digest(), before);
    }

    @Says("An object is used for at most 512 calls after it has been made")
    static void promise1CallNumber512() {
        CourierWar war = new CourierWar();
        for (int i = 0; i < 511; i++) {
            Check.same("the previous cell", war.moveGeneral(0, (i + 1) % 96), i % 96);
        }
        Check.same("the last call", war.moveGeneral(0, 7), 511 % 96);
    }

    // ---- promise 2

    @Says("`from`: the cell at its upper left")
    static void promise2FromFirstCell() {
        CourierWar war = new CourierWar();
        Check.same("just the cell 0", war.shape(0, 0, 1), 1);
        Check.same("its height", war.cell(0, 0), 1);
        Check.same("beside", war.cell(1, 0), 0);
        Check.same("below", war.cell(12, 0), 0);
    }

    @Says("`to`: the cell at its lower right")
    static void promise2ToLastCell() {
        CourierWar war = new CourierWar();
        Check.same("just the cell 95", war.shape(95, 95, 1), 1);
        Check.same("its height", war.cell(95, 0), 1);
        Check.same("beside", war.cell(94, 0), 0);
        Check.same("above", war.cell(83, 0), 0);
    }

    @Says("Throws `IndexOutOfBoundsException` if there is no such cell")
    static void promise2FromBeyond() {
        CourierWar war = new CourierWar();
        Check.refusedWith(war, "from", INDEX, from -> war.shape(from, 95, 1), NO_CELL);
    }

    @Says("Throws `IndexOutOfBoundsException` if there is no such cell")
    static void promise2ToBeyond() {
        CourierWar war = new CourierWar();
        Check.refusedWith(war, "to", INDEX, to -> war.shape(0, to, 1), NO_CELL);
    }

    @Says("`height`: 0 to 9")
    static void promise2HeightZero() {
        CourierWar war = new CourierWar();
        war.shape(50, 50, 1);
        Check.same("lowered", war.shape(50, 50, 0), 1);
        Check.same("its height", war.cell(50, 0), 0);
    }

    @Says("`height`: 0 to 9")
    static void promise2HeightNine() {
        CourierWar war = new CourierWar();
        Check.same("raised", war.shape(50, 50, 9), 1);
        Check.same("its height", war.cell(50, 0), 9);
    }

    @Says("or height is out of range")
    static void promise2HeightBeyond() {
        CourierWar war = new CourierWar();
        Check.refusedWith(war, "height", ARGUMENT, height -> war.shape(0, 95, height),
                -1, 10, Integer.MIN_VALUE, Integer.MAX_VALUE);
    }

    @Says("if the column or the row of from is greater than that of to")
    static void promise2SameColumn() {
        CourierWar war = new CourierWar();
        Check.same("one column", war.shape(3, 87, 4), 8);
        for (int cell = 0; cell < 96; cell++) {
            Check.same("the height of " + cell, war.cell(cell, 0), cell % 12 == 3 ? 4 : 0);
        }
    }

    @Says("if the column or the row of from is greater than that of to")
    static void promise2ColumnGreater() {
        CourierWar war = new CourierWar();
        Check.refused(war, "by one, a row lower", ARGUMENT, () -> war.shape(4, 15, 1));
        Check.refused(war, "by one, in the same row", ARGUMENT, () -> war.shape(95, 94, 1));
        Check.refused(war, "by eleven, seven rows lower", ARGUMENT, () -> war.shape(11, 84, 1));
    }

    @Says("if the column or the row of from is greater than that of to")
    static void promise2SameRow() {
        CourierWar war = new CourierWar();
        Check.same("one row", war.shape(24, 35, 4), 12);
        for (int cell = 0; cell < 96; cell++) {
            Check.same("the height of " + cell, war.cell(cell, 0), cell / 12 == 2 ? 4 : 0);
        }
    }

    @Says("if the column or the row of from is greater than that of to")
    static void promise2RowGreater() {
        CourierWar war = new CourierWar();
        Check.refused(war, "by one, a column to the right", ARGUMENT, () -> war.shape(15, 4, 1));
        Check.refused(war, "by one, in the same column", ARGUMENT, () -> war.shape(95, 83, 1));
        Check.refused(war, "by one, though it is the next number", ARGUMENT, () -> war.shape(12, 11, 1));
        Check.refused(war, "by seven, eleven columns to the right", ARGUMENT, () -> war.shape(84, 11, 1));
    }

    @Says("if the column or the row of from is greater than that of to")
    static void promise2BothGreater() {
        CourierWar war = new CourierWar();
        Check.refused(war, "by one", ARGUMENT, () -> war.shape(13, 0, 1));
        Check.refused(war, "by all", ARGUMENT, () -> war.shape(95, 0, 1));
    }

    @Says("Returns how many cells have another height than before.")
    static void promise2AllChanged() {
        CourierWar war = new CourierWar();
        Check.same("the whole field", war.shape(0, 95, 9), 96);
        Check.same("and back", war.shape(0, 95, 0), 96);
    }

    @Says("Returns how many cells have another height than before.")
    static void promise2SomeChanged() {
        CourierWar war = new CourierWar();
        war.shape(40, 40, 2);
        war.shape(41, 41, 3);
        Check.same("all but the one with this height", war.shape(39, 54, 3), 7);
        Check.same("now it has it", war.cell(41, 0), 3);
    }

    @Says("Returns how many cells have another height than before.")
    static void promise2NoneChanged() {
        CourierWar war = new CourierWar();
        Check.same("flat again", war.shape(0, 95, 0), 0);
        war.shape(7, 7, 6);
        Check.same("as high again", war.shape(7, 7, 6), 0);
    }

    @Says("saves the state from before it (also if it changes nothing)")
    static void promise2SavesWithoutChange() {
        CourierWar war = new CourierWar();
        war.shape(0, 95, 0);
        Check.same("saved", war.count(13), 1);
        Check.same("undone", war.undo(), 0);
    }

    @Says("the one that is named first in the throws clause is thrown")
    static void promise2CellBeforeBlockAndHeight() {
        CourierWar war = new CourierWar();
        Check.refused(war, "no from, no height", INDEX, () -> war.shape(96, 0, 10));
        Check.refused(war, "no to, no height", INDEX, () -> war.shape(95, -1, -1));
    }

    @Says("A troop has a side, a cell, a strength")
    static void promise2UnderTroopsAndGenerals() {
        CourierWar war = new CourierWar();
        war.addTroop(1, 0, 3);
        Check.same("the cell of a troop and a general", war.shape(0, 0, 9), 1);
        Check.same("the troop", war.cell(0, 1), 0);
        Check.same("the general", war.count(11), 0);
    }

    // ---- promise 3

    @Says("Returns the previous cell.")
    static void promise3SideZero() {
        CourierWar war = new CourierWar();
        Check.same("from its first cell", war.moveGeneral(0, 95), 0);
        Check.same("back", war.moveGeneral(0, 0), 95);
        Check.same("the other one", war.count(12), 95);
    }

    @Says("Returns the previous cell.")
    static void promise3SideOne() {
        CourierWar war = new CourierWar();
        Check.same("from its first cell", war.moveGeneral(1, 0), 95);
        Check.same("back", war.moveGeneral(1, 95), 0);
        Check.same("the other one", war.count(11), 0);
    }

    @Says("Throws `IndexOutOfBoundsException` if there is no such side or cell")
    static void promise3SideBeyond() {
        CourierWar war = new CourierWar();
        Check.refusedWith(war, "side", INDEX, side -> war.moveGeneral(side, 5), NO_SIDE);
    }

    @Says("Throws `IndexOutOfBoundsException` if there is no such side or cell")
    static void promise3CellBeyond() {
        CourierWar war = new CourierWar();
        Check.refusedWith(war, "cell of the side 0", INDEX, cell -> war.moveGeneral(0, cell), NO_CELL);
        Check.refusedWith(war, "cell of the side 1", INDEX, cell -> war.moveGeneral(1, cell), NO_CELL);
    }

    @Says("saves the state from before it (also if it changes nothing)")
    static void promise3ToItsOwnCell() {
        CourierWar war = new CourierWar();
        Check.same("its cell", war.moveGeneral(1, 95), 95);
        Check.same("saved", war.count(13), 1);
        Check.same("undone", war.undo(), 0);
        Check.same("still there", war.count(12), 95);
    }

    @Says("generals do not fight, and share cells with others")
    static void promise3SharesCells() {
        CourierWar war = new CourierWar();
        war.addTroop(1, 40, 5);
        Check.same("to an enemy's cell", war.moveGeneral(0, 40), 0);
        Check.same("to the other general", war.moveGeneral(1, 40), 95);
        war.addTroop(0, 95, 5);
        war.moveGeneral(0, 7);
        Check.same("a troop to a general's cell", war.addTroop(1, 7, 5), 2);
        war.order(2, 6);
        war.moveGeneral(0, 6);
        war.pass(1);
        Check.same("marched to a general's cell", war.troop(2, 1), 6);
    }

    @Says("generals do not fight, and share cells with others")
    static void promise3DoesNotFight() {
        CourierWar war = new CourierWar();
        war.addTroop(0, 40, 5);
        war.moveGeneral(1, 41);
        war.moveGeneral(0, 52);
        Check.same("beside an enemy's general", war.pass(3), 0);
        war.moveGeneral(1, 40);
        Check.same("in the same cell", war.pass(3), 0);
        Check.same("the general stays", war.count(12), 40);
    }

    @Says("generals do not fight, and share cells with others")
    static void promise3IsNoEnemyInSight() {
        CourierWar war = Scenes.routed(0, 27, 28);
        war.moveGeneral(1, 24);
        war.shape(3, 87, 9);
        war.shape(27, 27, 0);
        war.pass(1);
        Check.same("the enemy is in sight through the gap", war.troop(0, 4), 1);
        war.shape(27, 27, 9);
        war.pass(1);
        Check.same("just its general is in sight", war.troop(0, 4), 0);
    }

    // ---- promise 12

    @Says("The cell of the column x and the row y has the number 12 * y + x.")
    static void promise12FirstAndLastCell() {
        CourierWar war = new CourierWar();
        war.addTroop(0, 0, 1);
        war.addTroop(0, 95, 1);
        Check.same("the first one", war.cell(0, 1), 0);
        Check.same("the last one", war.cell(95, 1), 1);
    }

    @Says("Throws `IndexOutOfBoundsException` if there is no such cell")
    static void promise12CellBeyond() {
        CourierWar war = new CourierWar();
        for (int what = 0; what <= 3; what++) {
            int asked = what;
            Check.refusedWith(war, "property " + what + " of", INDEX, cell -> war.cell(cell, asked), NO_CELL);
        }
    }

    @Says("Throws `IllegalArgumentException` if what is not 0 to 3")
    static void promise12WhatBeyond() {
        CourierWar war = new CourierWar();
        Check.refusedWith(war, "what", ARGUMENT, what -> war.cell(0, what),
                -1, 4, Integer.MIN_VALUE, Integer.MAX_VALUE);
    }

    @Says("the one that is named first in the throws clause is thrown")
    static void promise12CellBeforeWhat() {
        CourierWar war = new CourierWar();
        Check.refused(war, "no cell, no property", INDEX, () -> war.cell(96, 4));
        Check.refused(war, "no cell, no property", INDEX, () -> war.cell(-1, -1));
    }

    @Says("the troop in it that is not gone, NONE if there is none")
    static void promise12TroopInIt() {
        CourierWar war = Scenes.gone();
        Check.same("none is in a free cell", war.cell(49, 1), CourierWar.NONE);
        Check.same("none where one is gone", war.cell(50, 1), CourierWar.NONE);
        war.addTroop(0, 50, 20);
        Check.same("the later one where another is gone", war.cell(50, 1), 2);
        CourierWar routed = Scenes.routed(0, 27, 28);
        Check.same("a routed one", routed.cell(27, 1), 0);
    }

    @Says("Two cells are neighbours if they share a side")
    static void promise12NeighboursAtTheRim() {
        CourierWar war = new CourierWar();
        for (int cell = 0; cell < 96; cell++) {
            int rims = (cell % 12 == 0 || cell % 12 == 11 ? 1 : 0) + (cell < 12 || cell > 83 ? 1 : 0);
            Check.same("neighbours of " + cell, war.cell(cell, 2), 4 - rims);
        }
    }

    @Says("One can step from a cell to a neighbour if their heights differ by at most 2.")
    static void promise12StepsOfTwo() {
        CourierWar war = new CourierWar();
        war.shape(40, 40, 2);
        Check.same("down by 2", war.cell(40, 2), 4);
        Check.same("up by 2", war.cell(41, 2), 4);
    }

    @Says("One can step from a cell to a neighbour if their heights differ by at most 2.")
    static void promise12StepsOfThree() {
        CourierWar war = new CourierWar();
        war.shape(40, 40, 3);
        Check.same("down by 3", war.cell(40, 2), 0);
        for (int beside : new int[] {28, 39, 41, 52}) {
            Check.same("up by 3 from " + beside, war.cell(beside, 2), 3);
        }
        Check.same("diagonal ones are no neighbours", war.cell(27, 2), 4);
    }

    @Says("how many of its neighbours one can step to")
    static void promise12TakenNeighbours() {
        CourierWar war = new CourierWar();
        war.addTroop(0, 28, 5);
        war.addTroop(1, 41, 5);
        Check.same("whoever stands beside it", war.cell(40, 2), 4);
        Check.same("or in it", war.cell(41, 2), 4);
    }

    @Says("how many cells it sees, itself among them")
    static void promise12SeesAll() {
        CourierWar war = new CourierWar();
        Check.same("from the first cell", war.cell(0, 3), 96);
        Check.same("from the last cell", war.cell(95, 3), 96);
        war.shape(0, 95, 9);
        Check.same("as high everywhere", war.cell(50, 3), 96);
    }

    @Says("how many cells it sees, itself among them")
    static void promise12SeesFewest() {
        CourierWar war = new CourierWar();
        war.shape(0, 95, 9);
        war.shape(0, 0, 0);
        war.shape(50, 50, 0);
        Check.same("from a pit in the corner", war.cell(0, 3), 4);
        Check.same("from a pit", war.cell(50, 3), 9);
    }

    // ---- promise 16

    @Says("A cell always sees itself.")
    static void promise16Itself() {
        CourierWar war = new CourierWar();
        war.shape(0, 95, 9);
        war.shape(50, 50, 0);
        Check.holds("in a pit", war.sees(50, 50));
        Check.holds("the first cell", war.sees(0, 0));
        Check.holds("the last cell", war.sees(95, 95));
    }

    @Says("For each k from 1 to n - 1")
    static void promise16NothingBetween() {
        CourierWar war = new CourierWar();
        war.shape(0, 95, 9);
        war.shape(50, 50, 0);
        for (int beside : new int[] {37, 38, 39, 49, 51, 61, 62, 63}) {
            Check.holds("out of a pit to " + beside, war.sees(50, beside));
            Check.holds("into a pit from " + beside, war.sees(beside, 50));
        }
        Check.holds("not to the second one", !war.sees(50, 52));
    }

    @Says("if for each such cell its height * n is at most (ha + 1) * (n - k) + (hb + 1) * k")
    static void promise16JustAtMost() {
        CourierWar war = new CourierWar();
        for (int cell = 1; cell <= 10; cell++) {
            war.shape(cell, cell, 1);
            Check.holds("11 against 11 in " + cell, war.sees(0, 11));
            war.shape(cell, cell, 2);
            Check.holds("22 against 11 in " + cell, !war.sees(0, 11));
            war.shape(cell, cell, 0);
        }
    }

    @Says("if for each such cell its height * n is at most (ha + 1) * (n - k) + (hb + 1) * k")
    static void promise16LowerNumberLow() {
        CourierWar war = new CourierWar();
        war.shape(3, 3, 3);
        war.shape(1, 1, 2);
        Check.holds("6 against 1 * 2 + 4 * 1", war.sees(0, 3));
        war.shape(1, 1, 3);
        Check.holds("9 against 1 * 2 + 4 * 1", !war.sees(0, 3));
        war.shape(1, 1, 0);
        war.shape(2, 2, 3);
        Check.holds("9 against 1 * 1 + 4 * 2", war.sees(0, 3));
        war.shape(2, 2, 4);
        Check.holds("12 against 1 * 1 + 4 * 2", !war.sees(0, 3));
    }

    @Says("if for each such cell its height * n is at most (ha + 1) * (n - k) + (hb + 1) * k")
    static void promise16LowerNumberHigh() {
        CourierWar war = new CourierWar();
        war.shape(0, 0, 3);
        war.shape(1, 1, 3);
        Check.holds("9 against 4 * 2 + 1 * 1", war.sees(0, 3));
        war.shape(1, 1, 4);
        Check.holds("12 against 4 * 2 + 1 * 1", !war.sees(0, 3));
        war.shape(1, 1, 0);
        war.shape(2, 2, 2);
        Check.holds("6 against 4 * 1 + 1 * 2", war.sees(0, 3));
        war.shape(2, 2, 3);
        Check.holds("9 against 4 * 1 + 1 * 2", !war.sees(0, 3));
    }

    @Says("if for each such cell its height * n is at most (ha + 1) * (n - k) + (hb + 1) * k")
    static void promise16EachSuchCell() {
        for (int cliff = 1; cliff <= 10; cliff++) {
            CourierWar war = new CourierWar();
            war.shape(84 + cliff, 84 + cliff, 9);
            Check.holds("a cliff in " + (84 + cliff), !war.sees(84, 95));
            Check.holds("from its foot", war.sees(84, 84 + cliff));
        }
        for (int cliff = 1; cliff <= 6; cliff++) {
            CourierWar war = new CourierWar();
            war.shape(12 * cliff, 12 * cliff, 9);
            Check.holds("a cliff in " + 12 * cliff, !war.sees(0, 84));
        }
    }

    /** In the middle of these lines the column or the row is a half; it goes to the greater one. */
    @Says("divisions are rounded down")
    static void promise16Halves() {
        int[][] lines = {{0, 14, 13, 1}, {2, 12, 13, 1}, {0, 25, 13, 12}, {1, 24, 13, 12}, {81, 95, 94, 82}};
        for (int[] line : lines) {
            CourierWar war = new CourierWar();
            war.shape(line[2], line[2], 9);
            Check.holds("the greater one is between " + line[0] + " and " + line[1], !war.sees(line[0], line[1]));
            war.shape(line[2], line[2], 0);
            war.shape(line[3], line[3], 9);
            Check.holds("the other one is not", war.sees(line[0], line[1]));
        }
    }

    @Says("n is the greater one of the sizes of xb - xa and yb - ya")
    static void promise16BothSizesAlike() {
        CourierWar war = new CourierWar();
        war.shape(39, 39, 9);
        Check.holds("down to the right", !war.sees(0, 91));
        Check.holds("down to the left", !war.sees(6, 72));
        Check.holds("beside the diagonal", war.sees(1, 92));
    }

    /** Heights from 0 to 9 that are too high by 1 of what the line has. */
    @Says("if for each such cell its height * n is at most (ha + 1) * (n - k) + (hb + 1) * k")
    static void promise16ByOneTooHigh() {
        CourierWar war = new CourierWar();
        war.shape(3, 3, 2);
        war.shape(1, 1, 2);
        Check.holds("6 against 1 * 2 + 3 * 1", !war.sees(0, 3));
        war.shape(0, 0, 1);
        Check.holds("6 against 2 * 2 + 3 * 1", war.sees(0, 3));
        war.shape(0, 0, 0);
        war.shape(3, 3, 3);
        Check.holds("6 against 1 * 2 + 4 * 1", war.sees(0, 3));
        war.shape(1, 1, 0);
        war.shape(0, 0, 2);
        war.shape(3, 3, 0);
        war.shape(2, 2, 2);
        Check.holds("6 against 3 * 1 + 1 * 2", !war.sees(0, 3));
    }

    @Says("Both cells see each other")
    static void promise16EachOther() {
        CourierWar war = new CourierWar();
        war.shape(13, 13, 9);
        war.shape(14, 14, 1);
        for (int one = 0; one < 36; one++) {
            for (int other = 0; other < 6; other++) {
                Check.same(one + " and " + other, war.sees(one, other) ? 1 : 0, war.sees(other, one) ? 1 : 0);
            }
        }
    }

    @Says("Throws `IndexOutOfBoundsException` if there is no such cell")
    static void promise16CellBeyond() {
        CourierWar war = new CourierWar();
        Check.refusedWith(war, "one", INDEX, one -> war.sees(one, 0), NO_CELL);
        Check.refusedWith(war, "other", INDEX, other -> war.sees(95, other), NO_CELL);
        Check.refusedWith(war, "both", INDEX, both -> war.sees(both, both), NO_CELL);
    }

    // ---- promise 17

    @Says("The distance of two cells is the least number of steps from one to the other")
    static void promise17Itself() {
        CourierWar war = new CourierWar();
        war.shape(0, 95, 9);
        war.shape(50, 50, 0);
        Check.same("in a pit", war.distance(50, 50), 0);
        Check.same("the first cell", war.distance(0, 0), 0);
        Check.same("the last cell", war.distance(95, 95), 0);
    }

    @Says("One can step from a cell to a neighbour if their heights differ by at most 2.")
    static void promise17OneStep() {
        CourierWar war = new CourierWar();
        for (int beside : new int[] {28, 41, 52, 39}) {
            Check.same("to " + beside, war.distance(40, beside), 1);
        }
        war.shape(40, 40, 2);
        Check.same("down by 2", war.distance(40, 41), 1);
        Check.same("up by 2", war.distance(41, 40), 1);
        war.shape(40, 40, 3);
        Check.same("down by 3", war.distance(40, 41), CourierWar.NONE);
        Check.same("up by 3", war.distance(41, 40), CourierWar.NONE);
    }

    @Says("Two cells are neighbours if they share a side")
    static void promise17AtTheRim() {
        CourierWar war = new CourierWar();
        Check.same("from the end of a row to the next one", war.distance(11, 12), 12);
        Check.same("from the end of a column to its beginning", war.distance(0, 84), 7);
        Check.same("diagonal", war.distance(0, 13), 2);
        Check.same("from corner to corner", war.distance(11, 84), 18);
    }

    @Says("The distance of two cells is the least number of steps from one to the other")
    static void promise17LongestWay() {
        CourierWar war = Scenes.winding();
        Check.same("through all cells", war.distance(0, 11), 95);
        Check.same("and back", war.distance(11, 0), 95);
        Check.same("without its last cell", war.distance(0, 23), 94);
    }

    @Says("whoever stands there")
    static void promise17WhoeverStandsThere() {
        CourierWar war = new CourierWar();
        war.addTroop(0, 1, 5);
        war.addTroop(1, 12, 5);
        war.moveGeneral(1, 1);
        Check.same("past both", war.distance(0, 2), 2);
        Check.same("to a troop", war.distance(0, 1), 1);
        Check.same("from a troop to a troop", war.distance(1, 12), 2);
    }

    @Says("there is none if one cannot step there")
    static void promise17None() {
        CourierWar war = Scenes.wall();
        Check.same("behind a wall", war.distance(0, 2), CourierWar.NONE);
        Check.same("from behind a wall", war.distance(2, 0), CourierWar.NONE);
        Check.same("onto a wall", war.distance(0, 1), CourierWar.NONE);
        Check.same("along the wall", war.distance(1, 85), 7);
        war.shape(85, 85, 2);
        Check.same("through its gap", war.distance(0, 2), 16);
    }

    @Says("Throws `IndexOutOfBoundsException` if there is no such cell")
    static void promise17CellBeyond() {
        CourierWar war = new CourierWar();
        Check.refusedWith(war, "from", INDEX, from -> war.distance(from, 0), NO_CELL);
        Check.refusedWith(war, "to", INDEX, to -> war.distance(95, to), NO_CELL);
        Check.refusedWith(war, "both", INDEX, both -> war.distance(both, both), NO_CELL);
    }
}
