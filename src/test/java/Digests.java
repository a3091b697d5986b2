import java.util.function.Supplier;

/** The digest as the document tells it, by the other methods. */
final class Digests {
    private Digests() {
    }

    /** Compares the digest with the one that the other methods tell, in parts, as no object has more than 512 calls. */
    static void told(String what, Supplier<CourierWar> made, String buffer) {
        CourierWar war = made.get();
        long first = war.digest();
        Check.same(what + ", once more", war.digest(), first);
        long hash = counts(2243, made.get());
        hash = cells(hash, made.get());
        hash = troops(hash, made.get());
        hash = rest(hash, made.get(), buffer);
        Check.same(what, first, hash);
    }

    private static long counts(long start, CourierWar war) {
        long hash = start;
        for (int what = 0; what <= 13; what++) {
            hash = 31 * hash + war.count(what);
        }
        return hash;
    }

    private static long cells(long start, CourierWar war) {
        long hash = start;
        for (int cell = 0; cell < 96; cell++) {
            for (int what = 0; what <= 2; what++) {
                hash = 31 * hash + war.cell(cell, what);
            }
        }
        return hash;
    }

    private static long troops(long start, CourierWar war) {
        long hash = start;
        int troops = war.count(1);
        for (int troop = 0; troop < troops; troop++) {
            for (int what = 0; what <= 8; what++) {
                hash = 31 * hash + war.troop(troop, what);
            }
            hash = 31 * hash + war.why(troop);
        }
        return hash;
    }

    private static long rest(long start, CourierWar war, String buffer) {
        long hash = start;
        int orders = war.count(5);
        for (int place = 0; place < orders; place++) {
            for (int what = 0; what <= 3; what++) {
                hash = 31 * hash + war.underWay(place, what);
            }
        }
        hash = 31 * hash + war.cell(war.count(11), 3);
        hash = 31 * hash + war.cell(war.count(12), 3);
        for (int what : new int[] {2, 3, 6, 7, 8, 9, 10}) {
            hash = 31 * hash + war.ifPassed(10, what);
        }
        hash = 31 * hash + Double.doubleToLongBits(war.strengthLeft());
        hash = 31 * hash + buffer.length();
        for (int i = 0; i < buffer.length(); i++) {
            hash = 31 * hash + buffer.charAt(i);
        }
        return hash;
    }
}
