import java.util.Map;
import java.util.TreeMap;
import java.util.function.LongSupplier;

/** All promises: long runs of many calls, whose answers are those of the model. */
public final class ModelTest {
    private static final int RUNS = 500;
    /** No object is promised to answer after its 512th call. */
    private static final int CALLS = 512;
    /** How often, of a hundred: shape, troops, order, pass, text, undo, ask; the rest looks ahead. */
    private static final int[][] MOODS = {
        {5, 12, 25, 15, 6, 3, 14}, {3, 10, 60, 3, 4, 1, 8}, {2, 15, 20, 35, 2, 1, 15}, {3, 12, 10, 10, 40, 3, 12},
        {2, 10, 25, 40, 2, 1, 10}, {8, 12, 15, 12, 5, 25, 13}, {0, 6, 35, 25, 0, 0, 14},
    };

    private final CourierWar war = new CourierWar();
    private final Model model = new Model();
    private final int run;
    private long seed;
    private int calls;
    private static final Map<String, Integer> SEEN = new TreeMap<>();

    private ModelTest(int run) {
        this.run = run;
        this.seed = 7919L * run + 12345L;
    }

    public static void main(String[] args) {
        for (int run = 0; run < RUNS; run++) {
            if (run % 10 == 9) {
                new ModelTest(run).look();
            } else {
                new ModelTest(run).play();
            }
        }
        check("addTroop throws IllegalStateException", 50);
        check("order throws IllegalStateException", 200);
        check("order far", 100);
        check("order very far", 20);
        check("why 1", 50);
        check("why 2", 50);
        check("why 3", 20);
        check("load 0", 50);
        check("load 2", 20);
        check("undo throws IllegalStateException", 20);
        check("pass throws IllegalStateException", 20);
        check("state 1", 300);
        check("state 2", 300);
        check("lost orders", 200);
        check("rallied", 50);
        check("arrives late", 100);
        check("arrives never", 100);
        check("bestPost", 300);
        check("share 0", 5);
        Check.end("ModelTest");
    }

    private static void check(String what, int least) {
        Check.holds(what + " is seen " + least + " times, but " + SEEN.getOrDefault(what, 0),
                SEEN.getOrDefault(what, 0) >= least);
    }

    private static void seen(String what, boolean really) {
        if (really) {
            SEEN.merge(what, 1, Integer::sum);
        }
    }

    private int upTo(int bound) {
        seed = seed * 6364136223846793005L + 1442695040888963407L;
        return (int) ((seed >>> 33) % bound);
    }

    /** From 0 to bound - 1, but seldom a number that is out of it. */
    private int about(int bound) {
        int luck = upTo(60);
        if (luck == 0) {
            return bound;
        }
        if (luck == 1) {
            return -1;
        }
        if (luck == 2) {
            return upTo(2) == 0 ? Integer.MAX_VALUE : Integer.MIN_VALUE;
        }
        return bound == 0 ? 0 : upTo(bound);
    }

    private void play() {
        terrain();
        int peace = upTo(4);
        int[] mood = MOODS[upTo(MOODS.length)];
        for (int done = 0; calls < CALLS; done++) {
            if (done % 8 == 7) {
                both("digest", war::digest, model::digest);
            } else {
                play(mood, peace);
            }
        }
    }

    private void play(int[] mood, int peace) {
        int choice = upTo(100);
        int kind = 0;
        while (kind < mood.length && choice >= mood[kind]) {
            choice -= mood[kind];
            kind++;
        }
        switch (kind) {
            case 0 -> shape();
            case 1 -> troops(peace);
            case 2 -> order(mood == MOODS[1]);
            case 3 -> pass(mood == MOODS[2]);
            case 4 -> text();
            case 5 -> both("undo", war::undo, model::undo);
            case 6 -> ask();
            default -> ahead();
        }
    }

    /** Sight and ways over torn ground. */
    private void look() {
        terrain();
        while (calls < CALLS) {
            int one = upTo(96);
            int other = upTo(96);
            switch (upTo(6)) {
                case 0 -> both("distance", () -> war.distance(one, other), () -> model.distance(one, other));
                case 1 -> both("seen cells", () -> war.cell(one, 3), () -> model.cell(one, 3));
                case 2 -> both("exits", () -> war.cell(one, 2), () -> model.cell(one, 2));
                default -> both("sees", () -> war.sees(one, other) ? 1 : 0, () -> model.sees(one, other) ? 1 : 0);
            }
        }
    }

    /** Asks both, and tells the answer; Long.MIN_VALUE for an exception. */
    private long both(String call, LongSupplier one, LongSupplier other) {
        if (calls >= CALLS) {
            return Long.MIN_VALUE;
        }
        calls++;
        long[] got = answer(call, one);
        long[] due = answer(null, other);
        if (got[0] != due[0] || got[1] != due[1]) {
            Check.same("run " + run + ": " + call + ", exception", got[0], due[0]);
            Check.same("run " + run + ": " + call, got[1], due[1]);
        } else {
            Check.same(call, got[1], due[1]);
        }
        return got[0] == 0 ? got[1] : Long.MIN_VALUE;
    }

    private static long[] answer(String call, LongSupplier asked) {
        try {
            return new long[] {0, asked.getAsLong()};
        } catch (RuntimeException e) {
            seen(call + " throws " + e.getClass().getSimpleName(), call != null);
            return new long[] {e.getClass().getName().hashCode(), 0};
        }
    }

    private void shapeBoth(int from, int to, int height) {
        both("shape", () -> war.shape(from, to, height), () -> model.shape(from, to, height));
    }

    private void terrain() {
        int kind = run % 6;
        int blocks = kind == 0 ? 0 : 6 + upTo(30);
        for (int i = 0; i < blocks; i++) {
            int from = upTo(96);
            int x = Math.min(11, from % 12 + upTo(kind == 5 ? 12 : 3));
            int y = Math.min(7, from / 12 + upTo(kind == 4 ? 8 : 3));
            int height = kind == 1 ? upTo(3) : kind == 2 ? upTo(5) : upTo(10);
            shapeBoth(from, 12 * y + x, height);
        }
    }

    private void shape() {
        int from = about(96);
        int to = upTo(3) == 0 ? about(96) : from;
        int height = upTo(3) == 0 ? about(10) : upTo(4);
        shapeBoth(from, to, height);
    }

    private void troops(int peace) {
        int side = about(2);
        if (upTo(3) == 0) {
            int cell = about(96);
            both("moveGeneral", () -> war.moveGeneral(side, cell), () -> model.moveGeneral(side, cell));
            return;
        }
        // At war the sides meet in the middle; in peace they begin apart.
        int cell = upTo(20) == 0 ? about(96)
                : upTo(8) * 12 + (peace == 0 ? upTo(12) : side == 0 ? upTo(5) : 4 + upTo(5));
        int strength = upTo(20) == 0 ? about(21) : 1 + upTo(run % 4 == 1 ? 3 : 20);
        both("addTroop", () -> war.addTroop(side, cell, strength), () -> model.addTroop(side, cell, strength));
    }

    private void order(boolean many) {
        int times = upTo(many ? 4 : 40) == 0 ? 12 : 1;
        int cell = upTo(20) == 0 ? about(96) : upTo(2) == 0 ? upTo(96) : upTo(8) * 12 + 3 + upTo(5);
        for (int i = 0; i < times; i++) {
            int troop = about(model.count(1));
            long turns = both("order", () -> war.order(troop, cell), () -> model.order(troop, cell));
            seen("order far", turns > 1);
            seen("order very far", turns > 6);
        }
    }

    private void pass(boolean longer) {
        int lost = model.count(6);
        int routed = model.count(3);
        int there = model.count(2);
        int turns = upTo(12) == 0 ? about(51) : upTo(longer ? 2 : 30) == 0 ? 50 : 1 + upTo(3);
        both("pass", () -> war.pass(turns), () -> model.pass(turns));
        seen("lost orders", model.count(6) > lost);
        seen("rallied", model.count(3) < routed && model.count(2) == there);
        seen("share 0", model.strengthLeft() == 0.0);
    }

    private void text() {
        int kind = upTo(5);
        if (kind == 0) {
            int code = about(127);
            both("append", () -> war.append(code), () -> model.append(code));
        } else if (kind == 1) {
            both("clearBuffer", war::clearBuffer, model::clearBuffer);
        } else {
            if (upTo(3) > 0) {
                both("clearBuffer", war::clearBuffer, model::clearBuffer);
            }
            StringBuilder text = new StringBuilder();
            int orders = 1 + upTo(upTo(4) == 0 ? 11 : 4);
            for (int i = 0; i < orders; i++) {
                text.append(i == 0 ? "" : ";").append(upTo(upTo(3) == 0 ? 12 : Math.max(1, model.count(1))));
                text.append('>').append(upTo(12)).append(',').append(upTo(8));
            }
            if (upTo(6) == 0) {
                text.setCharAt(upTo(text.length()), "0123456789>,;".charAt(upTo(13)));
            }
            for (int i = 0; i < text.length(); i++) {
                char code = text.charAt(i);
                both("append", () -> war.append(code), () -> model.append(code));
            }
        }
        both("firstError", war::firstError, model::firstError);
        if (upTo(3) > 0) {
            long given = both("load", war::load, model::load);
            seen("load 0", given == 0);
            seen("load 2", given >= 2);
        }
    }

    private void ask() {
        int cell = about(96);
        int other = about(96);
        int troop = about(model.count(1));
        int place = about(model.count(5));
        int four = about(4);
        int nine = about(9);
        int fourteen = about(14);
        both("cell", () -> war.cell(cell, four), () -> model.cell(cell, four));
        both("troop", () -> war.troop(troop, nine), () -> model.troop(troop, nine));
        long state = both("troop", () -> war.troop(troop, 4), () -> model.troop(troop, 4));
        seen("state " + state, true);
        both("underWay", () -> war.underWay(place, four), () -> model.underWay(place, four));
        both("count", () -> war.count(fourteen), () -> model.count(fourteen));
        both("sees", () -> war.sees(cell, other) ? 1 : 0, () -> model.sees(cell, other) ? 1 : 0);
        both("distance", () -> war.distance(cell, other), () -> model.distance(cell, other));
        long why = both("why", () -> war.why(troop), () -> model.why(troop));
        seen("why " + why, true);
    }

    private void ahead() {
        int side = about(2);
        long post = both("bestPost", () -> war.bestPost(side), () -> model.bestPost(side));
        seen("bestPost", post > 0);
        int turns = about(51);
        int what = about(14);
        both("ifPassed", () -> war.ifPassed(turns, what), () -> model.ifPassed(turns, what));
        int troop = about(model.count(1));
        long arrives = both("arrivesIn", () -> war.arrivesIn(troop), () -> model.arrivesIn(troop));
        seen("arrives late", arrives > 5);
        seen("arrives never", arrives == -1);
        both("strengthLeft", () -> Double.doubleToLongBits(war.strengthLeft()),
                () -> Double.doubleToLongBits(model.strengthLeft()));
    }
}
