/** Promises 7 to 10, sentence by sentence: the empty and the full buffer, and where texts end. */
public final class TextEdgeTest {
    private static final Class<IllegalArgumentException> ARGUMENT = IllegalArgumentException.class;
    private static final Class<IllegalStateException> STATE = IllegalStateException.class;
    /** Sixty characters, all of them the beginning of a longer text. */
    private static final String FULL = "0>0,0;".repeat(10);

    public static void main(String[] args) {
        Check.all(TextEdgeTest.class);
    }

    private static CourierWar with(String text) {
        CourierWar war = new CourierWar();
        Check.type(war, text);
        return war;
    }

    private static void errorIn(String text, int due) {
        Check.same("the first error of " + text, with(text).firstError(), due);
    }

    private static void noErrorIn(String... texts) {
        for (String text : texts) {
            errorIn(text, text.length());
        }
    }

    // ---- promise 7

    @Says("`code`: the character code, 33 to 126")
    static void promise7FirstAndLastCode() {
        CourierWar war = new CourierWar();
        Check.same("the first code", war.append(33), 1);
        Check.same("the last code", war.append(126), 2);
    }

    @Says("Throws `IllegalArgumentException` if code is not 33 to 126")
    static void promise7CodeBeyond() {
        CourierWar war = with("0>1");
        Check.refusedWith(war, "code", ARGUMENT, code -> war.append(code),
                32, 127, 0, -1, 33 + 256, 33 + 65536, Integer.MIN_VALUE, Integer.MAX_VALUE);
        Check.same("the buffer", war.clearBuffer(), 3);
    }

    @Says("Returns the new length of the buffer.")
    static void promise7NewLength() {
        CourierWar war = new CourierWar();
        for (int i = 0; i < 60; i++) {
            Check.same("the new length", war.append(FULL.charAt(i)), i + 1);
        }
    }

    @Says("The buffer has at most 60 characters.")
    static void promise7SixtyFirst() {
        CourierWar war = with(FULL);
        Check.refused(war, "the 61st", STATE, () -> war.append('1'));
        Check.same("the buffer", war.clearBuffer(), 60);
        Check.same("the first one again", war.append('1'), 1);
    }

    @Says("the one that is named first in the throws clause is thrown")
    static void promise7ArgumentBeforeState() {
        CourierWar war = with(FULL);
        Check.refusedWith(war, "code", ARGUMENT, code -> war.append(code), 32, 127);
    }

    @Says("Appends a character to the buffer.")
    static void promise7AlsoASyntaxError() {
        CourierWar war = with("~");
        Check.same("behind an error", war.append('~'), 2);
        Check.same("and another one", war.append('!'), 3);
    }

    @Says("all but the buffer and the saved states")
    static void promise7NotUndoable() {
        CourierWar war = with("0>1");
        Check.same("saved", war.count(13), 0);
        Check.refused(war, "nothing to undo", STATE, () -> war.undo());
    }

    // ---- promise 8

    @Says("Returns the length that it had.")
    static void promise8Empty() {
        CourierWar war = new CourierWar();
        Check.same("a new one", war.clearBuffer(), 0);
        Check.type(war, "0");
        war.clearBuffer();
        Check.same("a clear one", war.clearBuffer(), 0);
    }

    @Says("Returns the length that it had.")
    static void promise8OneCharacter() {
        Check.same("one", with("~").clearBuffer(), 1);
    }

    @Says("Returns the length that it had.")
    static void promise8Full() {
        CourierWar war = with(FULL);
        Check.same("sixty", war.clearBuffer(), 60);
        Check.same("then none", war.clearBuffer(), 0);
        Check.same("no error is left", war.firstError(), 0);
    }

    @Says("all but the buffer and the saved states")
    static void promise8NotUndoable() {
        CourierWar war = with("0>1");
        war.moveGeneral(0, 5);
        war.clearBuffer();
        Check.same("saved", war.count(13), 1);
        Check.same("undone", war.undo(), 0);
        Check.same("the general is back", war.count(11), 0);
        Check.same("the buffer is not", war.clearBuffer(), 0);
    }

    // ---- promise 9

    @Says("the length of the buffer if there is none")
    static void promise9Empty() {
        errorIn("", 0);
    }

    @Says("the length of the buffer if there is none")
    static void promise9Complete() {
        noErrorIn("0>0,0", "11>11,7", "10>10,6;9>9,5");
    }

    @Says("if no text, of any length, begins with the characters before it and this character")
    static void promise9Beginnings() {
        noErrorIn("0", "1", "10", "11", "0>", "11>", "0>0", "0>1", "0>10", "0>11", "0>0,", "0>11,", "0>0,0;");
    }

    @Says("if no text, of any length, begins with the characters before it and this character")
    static void promise9FullBufferThatGoesOn() {
        errorIn(FULL, 60);
        errorIn("11>11,7;".repeat(7) + "11>1", 60);
        errorIn("11>11,7;".repeat(7) + "11>2", 60);
    }

    @Says("Returns the index of the first character that is a syntax error")
    static void promise9FirstCharacter() {
        for (String first : new String[] {">", ",", ";", "-", "!", "~", "a", "/", ":"}) {
            errorIn(first, 0);
            errorIn(first + "0>0,0", 0);
        }
    }

    @Says("Returns the index of the first character that is a syntax error")
    static void promise9LastCharacter() {
        errorIn(FULL.substring(0, 59) + "0", 59);
        errorIn(FULL.substring(0, 59) + "~", 59);
        errorIn("0>0,8", 4);
    }

    @Says("Finds the first syntax error of the buffer.")
    static void promise9FirstOfSeveral() {
        errorIn("0>0,0;x;y", 6);
        errorIn("12>0,0", 1);
        errorIn("0>12,9", 3);
        errorIn("0>0,00;;", 5);
    }

    @Says("each one the number of a troop (0 to 11)")
    static void promise9Troops() {
        for (int troop = 0; troop <= 11; troop++) {
            noErrorIn(troop + ">0,0");
        }
        for (int troop = 12; troop <= 99; troop++) {
            errorIn(troop + ">0,0", 1);
        }
        errorIn("100>0,0", 2);
        errorIn("110>0,0", 2);
    }

    @Says("a column (0 to 11)")
    static void promise9Columns() {
        for (int column = 0; column <= 11; column++) {
            noErrorIn("0>" + column + ",0");
        }
        for (int column = 12; column <= 99; column++) {
            errorIn("0>" + column + ",0", 3);
        }
        errorIn("0>100,0", 4);
        errorIn("0>110,0", 4);
    }

    @Says("a row (0 to 7)")
    static void promise9Rows() {
        for (int row = 0; row <= 7; row++) {
            noErrorIn("0>0," + row, "0>0," + row + ";");
            errorIn("0>0," + row + "0", 5);
        }
        errorIn("0>0,8", 4);
        errorIn("0>0,9", 4);
        errorIn("0>0,10", 5);
    }

    @Says("without leading zeros")
    static void promise9LeadingZeros() {
        errorIn("00>0,0", 1);
        errorIn("01>0,0", 1);
        errorIn("011>0,0", 1);
        errorIn("0>00,0", 3);
        errorIn("0>01,0", 3);
        errorIn("0>0,00", 5);
        errorIn("0>0,07", 5);
    }

    @Says("A text is one or more orders separated by \";\"")
    static void promise9Separators() {
        errorIn(";0>0,0", 0);
        errorIn("0>0,0;;0>0,0", 6);
        errorIn("0>0,0,0>0,0", 5);
        errorIn("0>0,0>0", 5);
        errorIn("0>>0,0", 2);
        errorIn("0>,0", 2);
        errorIn("0>0,,0", 4);
        errorIn("0>0,;", 4);
        errorIn("0;0,0", 1);
        errorIn("0>0;0", 3);
        errorIn("0,0,0", 1);
        errorIn("0>0>0", 3);
    }

    @Says("Finds the first syntax error of the buffer.")
    static void promise9ChangesNothing() {
        CourierWar war = with("0>0,x");
        long before = war.digest();
        war.firstError();
        Check.same("the second time", war.firstError(), 4);
        Check.same("the state", war.digest(), before);
    }

    // ---- promise 10

    /** One troop at the cell 5 that its general sees, and the text in the buffer. */
    private static CourierWar ready(String text) {
        CourierWar war = with(text);
        war.addTroop(0, 5, 5);
        return war;
    }

    private static void refusedText(String text) {
        CourierWar war = ready(text);
        Check.refused(war, "load of " + text, ARGUMENT, () -> war.load());
        Check.same("the buffer stays", war.clearBuffer(), text.length());
    }

    @Says("Throws `IllegalArgumentException` if the buffer is not a complete text")
    static void promise10Empty() {
        refusedText("");
    }

    @Says("Throws `IllegalArgumentException` if the buffer is not a complete text")
    static void promise10Incomplete() {
        for (String text : new String[] {"0", "1", "10", "0>", "0>1", "0>10", "0>0,", "0>0,0;0>0,", "0>0,0;1"}) {
            refusedText(text);
        }
    }

    @Says("Throws `IllegalArgumentException` if the buffer is not a complete text")
    static void promise10EndsWithASeparator() {
        refusedText("0>0,0;");
        refusedText(FULL);
    }

    @Says("Throws `IllegalArgumentException` if the buffer is not a complete text")
    static void promise10SyntaxErrors() {
        String[] texts = {
            "~", "0>0,0x", "x0>0,0", "0>0,8", "0>12,0", "12>0,0", "00>0,0", "0>0,00", "xx0>0,0", "0>0,0~~1>1,1",
            "0>0,0~;0>0,0",
        };
        for (String text : texts) {
            refusedText(text);
        }
    }

    @Says("Returns how many orders are given.")
    static void promise10OneOrder() {
        CourierWar war = ready("0>11,7");
        Check.same("given", war.load(), 1);
        Check.same("under way", war.count(5), 1);
        Check.same("its goal", war.underWay(0, 2), 95);
    }

    @Says("Returns how many orders are given.")
    static void promise10MostOrders() {
        CourierWar war = ready(FULL.substring(0, 54) + "0>11,7");
        Check.same("ten in sixty characters", war.load(), 10);
        Check.same("the first goal", war.underWay(0, 2), 0);
        Check.same("the last goal", war.underWay(9, 2), 95);
        Check.same("the last number", war.underWay(9, 0), 9);
        CourierWar shorter = ready(FULL.substring(0, 59));
        Check.same("ten in 59 characters", shorter.load(), 10);
    }

    @Says("each one the number of a troop (0 to 11), \">\", a column (0 to 11), \",\", and a row (0 to 7)")
    static void promise10AllNumbers() {
        CourierWar war = new CourierWar();
        for (int troop = 0; troop < 12; troop++) {
            war.addTroop(0, troop, 5);
        }
        String[] texts = {"11>11,7;10>10,6;9>9,5;8>8,4", "7>7,3;6>6,2;5>5,1;4>4,0", "3>3,7;2>2,6;1>1,5;0>0,4"};
        for (String text : texts) {
            Check.type(war, text);
            Check.same("given of " + text, war.load(), 4);
        }
        for (int place = 0; place < 12; place++) {
            int troop = 11 - place;
            int row = (7 - place % 8) % 8;
            Check.same("the troop at " + place, war.underWay(place, 1), troop);
            Check.same("the goal at " + place, war.underWay(place, 2), 12 * row + troop);
        }
    }

    @Says("and clears the buffer")
    static void promise10ClearsTheBuffer() {
        CourierWar war = ready("0>0,0;0>1,1");
        war.load();
        Check.same("cleared", war.clearBuffer(), 0);
        CourierWar refused = ready("1>0,0");
        Check.same("none given", refused.load(), 0);
        Check.same("cleared all the same", refused.clearBuffer(), 0);
    }

    @Says("Gives the orders in the buffer one by one, as long as none of them would throw an exception")
    static void promise10StopsAtNoTroop() {
        CourierWar war = ready("0>1,0;1>2,0;0>3,0");
        Check.same("before the troop 1 of one", war.load(), 1);
        Check.same("under way", war.count(5), 1);
        war.addTroop(0, 6, 5);
        Check.type(war, "0>1,0;1>2,0;0>3,0");
        Check.same("with two troops", war.load(), 3);
        Check.same("without troops", loaded(with("0>0,0")), 0);
    }

    private static int loaded(CourierWar war) {
        return war.load();
    }

    @Says("Gives the orders in the buffer one by one, as long as none of them would throw an exception")
    static void promise10StopsAtAGoneTroop() {
        CourierWar war = Scenes.gone();
        Check.type(war, "1>0,0;0>0,0;1>0,0");
        Check.same("before the gone one", war.load(), 1);
        Check.same("under way", war.count(5), 1);
    }

    @Says("Gives the orders in the buffer one by one, as long as none of them would throw an exception")
    static void promise10StopsWithoutAWay() {
        CourierWar war = Scenes.wall();
        war.addTroop(0, 0, 5);
        war.addTroop(0, 2, 5);
        Check.type(war, "0>0,0;1>0,0;0>0,0");
        Check.same("before the one behind the wall", war.load(), 1);
        Check.same("under way", war.count(5), 1);
    }

    @Says("Gives the orders in the buffer one by one, as long as none of them would throw an exception")
    static void promise10StopsAtThirty() {
        CourierWar war = Scenes.ordered(28);
        Check.type(war, "0>0,0;0>1,0;0>2,0");
        Check.same("the 29th and the 30th", war.load(), 2);
        Check.same("under way", war.count(5), 30);
        Check.type(war, "0>0,0");
        Check.same("not the 31st", war.load(), 0);
        CourierWar just = Scenes.ordered(28);
        Check.type(just, "0>0,0;0>1,0");
        Check.same("just up to thirty", just.load(), 2);
    }

    @Says("as long as none of them would throw an exception")
    static void promise10BeyondTheLastTurn() {
        CourierWar war = Scenes.atTurn(1000);
        war.addTroop(0, 4, 5);
        Check.type(war, "0>0,0;0>1,0");
        Check.same("given", war.load(), 2);
        Check.same("for a turn that can't be", war.underWay(1, 3), 1001);
    }

    @Says("Undoable, as one call, also if the first order is refused.")
    static void promise10UndoneAsOneCall() {
        CourierWar war = ready("0>0,0;0>1,0;0>2,0");
        war.load();
        Check.same("saved once more", war.count(13), 2);
        Check.same("undone", war.undo(), 1);
        Check.same("none under way", war.count(5), 0);
        Check.same("none given", war.count(4), 0);
        Check.same("the buffer stays clear", war.clearBuffer(), 0);
    }

    @Says("Undoable, as one call, also if the first order is refused.")
    static void promise10SavesIfTheFirstIsRefused() {
        CourierWar war = ready("1>0,0");
        Check.same("none given", war.load(), 0);
        Check.same("saved once more", war.count(13), 2);
        Check.same("undone", war.undo(), 1);
        Check.same("the troop is still there", war.count(1), 1);
    }
}
