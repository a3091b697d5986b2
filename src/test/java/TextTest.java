/** Promises 7 to 10: the buffer, its first error, and the orders that are loaded from it. */
public final class TextTest {
    private static final Class<IllegalArgumentException> ARGUMENT = IllegalArgumentException.class;
    private static final Class<IllegalStateException> STATE = IllegalStateException.class;

    public static void main(String[] args) {
        Check.all(TextTest.class);
    }

    private static CourierWar with(String text) {
        CourierWar war = new CourierWar();
        Check.type(war, text);
        return war;
    }

    static void promise7Append() {
        CourierWar war = new CourierWar();
        Check.refused(war, "append(32)", ARGUMENT, () -> war.append(32));
        Check.refused(war, "append(127)", ARGUMENT, () -> war.append(127));
        Check.refused(war, "append(-1)", ARGUMENT, () -> war.append(-1));
        Check.refused(war, "append(1000)", ARGUMENT, () -> war.append(1000));
        for (int i = 1; i <= 60; i++) {
            Check.same("the new length", war.append(i % 2 == 0 ? 33 : 126), i);
        }
        Check.refused(war, "the 61st", STATE, () -> war.append(48));
        Check.refused(war, "the 61st and no character", ARGUMENT, () -> war.append(32));
        Check.same("nothing saved", war.count(13), 0);
        Check.same("the buffer", war.clearBuffer(), 60);
    }

    static void promise8ClearBuffer() {
        CourierWar war = with("0>1,2");
        Check.same("clears", war.clearBuffer(), 5);
        Check.same("clears nothing", war.clearBuffer(), 0);
        Check.same("nothing saved", war.count(13), 0);
        Check.same("the next length", war.append('9'), 1);
        Check.same("no error", war.firstError(), 1);
    }

    static void promise9FirstError() {
        Object[] due = {
            "", 0, "0", 1, "1", 1, "9", 1, "10", 2, "11", 2, "12", 1, "19", 1, "00", 1, "01", 1, "20", 1, "110", 2,
            ">", 0, ",", 0, ";", 0, "a", 0, "-1", 0, "0;", 1, "0,", 1, "0>", 2, "0>>", 2, "0>,", 2, "0>;", 2,
            "0>1", 3, "0>12", 3, "0>00", 3, "0>05", 3, "0>10", 4, "0>11", 4, "0>111", 4, "0>2>", 3, "0>2;", 3,
            "0>2,", 4, "0>2,,", 4, "0>2,0", 5, "0>2,7", 5, "0>2,8", 4, "0>2,9", 4, "0>2,00", 5, "0>2,77", 5,
            "0>2,7,", 5, "0>2,7>", 5, "0>2,7;", 6, "0>2,7;;", 6, "0>2,7;>", 6, "0>2,7;3", 7, "5>9,3;11>10,0", 13,
            "5>9,3;11>12,0", 10, "5>9,3;12>1,0", 7, "zz>", 0, "0>1,1;0>1,1;x", 12, "0>1,9;12", 4,
        };
        for (int i = 0; i < due.length; i += 2) {
            Check.same("first error of " + due[i], with((String) due[i]).firstError(), (Integer) due[i + 1]);
        }
    }

    static void promise9EachCharacter() {
        String[] may = {
            "", "0123456789", "0", ">", "1", "01>", "2", ">", "9", ">", "10", ">", "11", ">", "0>", "0123456789",
            "0>0", ",", "0>1", "01,", "0>2", ",", "0>9", ",", "0>10", ",", "0>11", ",", "0>1,", "01234567",
            "0>1,0", ";", "0>1,7", ";", "0>1,1;", "0123456789", "0>1,1;1", "01>", "0>1,1;8>1", "01,",
        };
        for (int i = 0; i < may.length; i += 2) {
            for (char next = 33; next <= 126; next++) {
                int length = may[i].length();
                Check.same("first error of " + may[i] + next, with(may[i] + next).firstError(),
                        may[i + 1].indexOf(next) < 0 ? length : length + 1);
            }
        }
    }

    static void promise10Load() {
        CourierWar war = new CourierWar();
        war.addTroop(0, 5, 5);
        war.addTroop(1, 90, 5);
        Check.type(war, "1>11,7;0>10,0;0>0,1");
        Check.same("given", war.load(), 3);
        Check.same("the buffer is clear", war.clearBuffer(), 0);
        Check.same("saved once", war.count(13), 3);
        int[][] due = {{0, 1, 95, 1}, {1, 0, 10, 1}, {2, 0, 12, 1}};
        for (int place = 0; place < due.length; place++) {
            for (int what = 0; what <= 3; what++) {
                Check.same("order " + place + ", " + what, war.underWay(place, what), due[place][what]);
            }
        }
    }

    static void promise10AllTroopsAndCells() {
        for (int row = 0; row < 8; row++) {
            CourierWar war = new CourierWar();
            for (int troop = 0; troop < 12; troop++) {
                war.addTroop(0, troop, 5);
            }
            for (int column = 0; column < 12; column++) {
                Check.type(war, column + ">" + (11 - column) + "," + row);
                Check.same("given", war.load(), 1);
                Check.same("troop", war.underWay(column, 1), column);
                Check.same("goal", war.underWay(column, 2), 12 * row + 11 - column);
            }
        }
        CourierWar shorter = new CourierWar();
        shorter.addTroop(0, 5, 5);
        Check.type(shorter, "0>10,1;0>2,2");
        Check.same("given", shorter.load(), 2);
        Check.type(shorter, "0>3,3");
        Check.same("no more than there are", shorter.load(), 1);
        CourierWar full = new CourierWar();
        full.addTroop(0, 5, 5);
        Check.type(full, "0>0,0;0>1,0;0>2,0;0>3,0;0>4,0;0>5,0;0>6,0;0>7,0;0>8,0;0>10,0");
        Check.same("full", full.firstError(), 60);
        Check.same("given of a full buffer", full.load(), 10);
        Check.same("the last one", full.underWay(9, 2), 10);
    }

    static void promise10Stops() {
        CourierWar war = new CourierWar();
        war.shape(1, 85, 2);
        war.addTroop(0, 95, 5);
        Check.type(war, "0>0,0;1>0,0;0>0,0");
        Check.same("up to a number without a troop", war.load(), 1);
        Check.same("the rest is not given", war.count(5), 1);
        Check.same("the buffer is clear", war.clearBuffer(), 0);
        for (int i = 1; i < 28; i++) {
            war.order(0, 95);
        }
        Check.type(war, "0>0,0;0>1,0;0>2,0");
        Check.same("up to thirty under way", war.load(), 2);
        CourierWar walled = new CourierWar();
        walled.shape(1, 85, 9);
        walled.addTroop(0, 2, 5);
        walled.addTroop(0, 0, 5);
        walled.addTroop(1, 3, 1);
        Check.type(walled, "1>0,0;0>0,0;1>0,0");
        Check.same("up to one without a way", walled.load(), 1);
        walled.pass(1);
        Check.type(walled, "2>0,0;1>0,0");
        Check.same("none, as the troop is gone", walled.load(), 0);
        Check.same("clear all the same", walled.clearBuffer(), 0);
    }

    static void promise10Incomplete() {
        String[] texts = {"", "0", "0>1", "0>1,", "0>1,1;", "0>1,1;0>1,", "0>1,8", "x", "0>1,1x", "0>1,1;;0>1,1"};
        for (String text : texts) {
            CourierWar war = with(text);
            war.addTroop(0, 5, 5);
            Check.refused(war, "load of " + text, ARGUMENT, () -> war.load());
            Check.same("the buffer stays", war.clearBuffer(), text.length());
        }
    }

    static void promise10Undoable() {
        CourierWar war = with("0>1,1;0>2,2");
        war.addTroop(0, 5, 5);
        Check.same("given", war.load(), 2);
        Check.same("saved", war.count(13), 2);
        Check.same("undone as one call", war.undo(), 1);
        Check.same("none under way", war.count(5), 0);
        Check.same("none given", war.count(4), 0);
        Check.same("the buffer stays clear", war.clearBuffer(), 0);
        Check.type(war, "7>1,1");
        Check.same("the first one is refused", war.load(), 0);
        Check.same("saved all the same", war.count(13), 2);
    }
}
