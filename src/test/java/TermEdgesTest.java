/** The boundaries in 'Terms', a test for each sentence. What a refusal leaves as it was: RefusalTest. */
public final class TermEdgesTest {
    public static void main(String[] args) {
        doublesAreXoredFrom256On();
        inverseTimesByteIsOne();
        for (int data = 1; data <= 4; data++) {
            for (int more = 1; more <= 3; more++) {
                shardsAreNumberedFromZero(data, more);
                moreShardsAreSums(data, more);
                harmlessUpToMoreLost(data, more);
                leastShardsAreTaken(data, more);
            }
            stripesAreThoseNeeded(data);
            bytesLieInOrder(data);
            bytesBehindTheEndAreZero(data);
        }
        disksAreZeroToSeven();
        slotsAreZeroToNine();
        objectsAreZeroToFive();
        failedDiskIsEmptyAndNotAlive();
        newDiskIsEmptyAndAlive();
        Due.end();
    }

    /** "2 * a is a doubled, and xored with 285 if it is 256 or more." */
    private static void doublesAreXoredFrom256On() {
        StripeVault vault = new StripeVault(1, 2);
        Due.same("product(127, 2)", vault.product(127, 2), 254);
        Due.same("product(128, 2)", vault.product(128, 2), 29);
        Due.same("product(129, 2)", vault.product(129, 2), 31);
        Due.same("product(255, 2)", vault.product(255, 2), 227);
        Due.same("product(1, 128)", vault.product(1, 128), 128);
        Due.same("product(2, 128)", vault.product(2, 128), 29);
        Due.same("product(64, 4)", vault.product(64, 4), 29);
        Due.same("product(63, 4)", vault.product(63, 4), 252);
        // 1 / 2 is 142, whose double is 284: the first one above the bound that shards meet.
        vault.put(4, 0x01020304L);
        vault.store(0);
        Vaults.slotIs(vault, 32, 142, 1, 143, 2);
    }

    /** "1 / a is the byte whose product with a is 1 (a is not 0)." */
    private static void inverseTimesByteIsOne() {
        StripeVault vault = new StripeVault(1, 1);
        Due.same("product(1, -1)", vault.product(1, -1), 1);
        Due.same("product(2, -1)", vault.product(2, -1), 142);
        Due.same("product(142, -1)", vault.product(142, -1), 2);
        Due.same("255 * product(255, -1)", Bytes.times(255, vault.product(255, -1)), 1);
        Due.refused("product(0, -1)", Due.ARITHMETIC, () -> vault.product(0, -1));
    }

    /** "A STRIPE has K + M SHARDS of 4 bytes, numbered from 0." */
    private static void shardsAreNumberedFromZero(int data, int more) {
        StripeVault vault = Vaults.with(data, more, 4 * data, 1);
        int last = data + more - 1;
        Due.same("where(0, 0, 0)", vault.where(0, 0, 0), 0);
        Due.same("where(0, 0, " + last + ")", vault.where(0, 0, last), 16 * last);
        Due.refused("where(0, 0, -1)", Due.INDEX, () -> vault.where(0, 0, -1));
        Due.refused("where(0, 0, " + (last + 1) + ")", Due.INDEX, () -> vault.where(0, 0, last + 1));
        Due.same("stored(0, 0, 0)", vault.stored(0, 0, 0), 1);
        Due.same("stored(0, 0, 3)", vault.stored(0, 0, 3), 4);
        Due.refused("stored(0, 0, -1)", Due.ARGUMENT, () -> vault.stored(0, 0, -1));
        Due.refused("stored(0, 0, 4)", Due.ARGUMENT, () -> vault.stored(0, 0, 4));
        Due.refused("stored(" + (last + 1) + ", 0, 0)", Due.ELEMENT, () -> vault.stored(last + 1, 0, 0));
        Due.same("drop(0)", vault.drop(0), data + more);
    }

    /** "Byte t of shard K + i is the sum, for j = 0 .. K - 1, of (1 / ((K + i) ^ j)) * byte t of shard j." */
    private static void moreShardsAreSums(int data, int more) {
        // Byte j of shard j alone is 1, so that each factor is seen by itself.
        StripeVault ones = new StripeVault(data, more);
        for (int j = 0; j < data; j++) {
            ones.put(4, 1L << 8 * (3 - j));
        }
        ones.store(0);
        for (int s = data; s < data + more; s++) {
            for (int t = 0; t < 4; t++) {
                Due.same("factor " + t + " of shard " + s, ones.stored(s, 0, t), t < data ? Bytes.inverse(s ^ t) : 0);
            }
        }
        StripeVault sums = Vaults.with(data, more, 4 * data, 250);
        for (int s = 0; s < data + more; s++) {
            for (int t = 0; t < 4; t++) {
                int[] bytes = new int[data];
                for (int j = 0; j < data; j++) {
                    bytes[j] = (250 + 4 * j + t) & 255;
                }
                Due.same("byte " + t + " of shard " + s, sums.stored(s, 0, t), Bytes.shardByte(s, bytes));
            }
        }
    }

    /** "It is GONE when more than M shards are lost": the first ones, and the last ones. */
    private static void harmlessUpToMoreLost(int data, int more) {
        for (int from : new int[] {0, data}) {
            StripeVault vault = Vaults.with(data, more, 4 * data, 30);
            for (int s = from; s < from + more; s++) {
                vault.fail(s);
            }
            Vaults.readsAs(vault, 0, 4 * data, 30);
            vault.fail(from == 0 ? more : data - 1);
            Due.refused("get(0), " + (more + 1) + " lost", Due.STATE, () -> vault.get(0));
            Due.same("check(0)", vault.check(0), 0);
            Due.same("repair()", vault.repair(), 0);
        }
    }

    /** "The K shards with the least numbers that are not lost are taken (whatever the others are)." */
    private static void leastShardsAreTaken(int data, int more) {
        for (int lost = 0; lost < more; lost++) {
            StripeVault vault = Vaults.with(data, more, 4 * data, 99);
            for (int s = 0; s < lost; s++) {
                vault.fail(s);
            }
            for (int s = lost + data; s < data + more; s++) {
                vault.harm(s, 0, 3, 255);
            }
            Vaults.readsAs(vault, 0, 4 * data, 99);
            vault.harm(lost + data - 1, 0, 3, 255);
            vault.get(0);
            Due.same("the last shard taken is seen", changedBytes(vault, 4 * data, 99) > 0, true);
        }
    }

    private static int changedBytes(StripeVault vault, int length, int first) {
        int changed = 0;
        for (int i = 0; i < length; i++) {
            changed += vault.at(i) == ((first + i) & 255) ? 0 : 1;
        }
        return changed;
    }

    /** "An object has a LENGTH, 1 .. 32 bytes, and as many stripes, numbered from 0, as are needed." */
    private static void stripesAreThoseNeeded(int data) {
        int one = 4 * data;
        int[] lengths = {1, one - 1, one, one + 1, 2 * one - 1, 2 * one, 31, 32};
        int[] stripes = {1, 1, 1, 2, 2, 2, (30 + one) / one, (31 + one) / one};
        for (int i = 0; i < lengths.length; i++) {
            StripeVault vault = new StripeVault(data, 1);
            Vaults.fillDraft(vault, lengths[i], 1);
            int last = stripes[i] - 1;
            Due.same("store(0) of " + lengths[i] + " bytes, K = " + data, vault.store(0), last + 1);
            Due.same("length(0)", vault.length(0), lengths[i]);
            Due.same("where(0, " + last + ", 0) is a place", vault.where(0, last, 0) >= 0, true);
            Due.refused("where(0, " + (last + 1) + ", 0)", Due.INDEX, () -> vault.where(0, last + 1, 0));
            Due.refused("where(0, -1, 0)", Due.INDEX, () -> vault.where(0, -1, 0));
        }
    }

    /** "Byte t of shard j is byte 4 * K * s + 4 * j + t." */
    private static void bytesLieInOrder(int data) {
        StripeVault vault = Vaults.with(data, 1, 32, 11);
        for (int i = 0; i < 32; i++) {
            int place = vault.where(0, i / (4 * data), i / 4 % data);
            Due.same("byte " + i + ", K = " + data, vault.stored(place / 16, place % 16, i % 4), 11 + i);
        }
    }

    /** "..., or 0 behind the end": in slots and a draft that had other bytes before. */
    private static void bytesBehindTheEndAreZero(int data) {
        for (int length = 1; length <= 4 * data; length++) {
            StripeVault vault = new StripeVault(data, 3);
            for (int object = 0; object < 2; object++) {
                Vaults.store(vault, object, 4 * data, 255);
            }
            vault.drop(0);
            vault.drop(1);
            Vaults.fillDraft(vault, 32, 77);
            vault.scrap();
            Vaults.store(vault, 3, length, 1);
            for (int i = 0; i < 4 * data; i++) {
                Due.same("byte " + i + " of " + length, vault.stored(i / 4, 0, i % 4), i < length ? 1 + i : 0);
            }
            for (int t = length; t < 4; t++) {
                Due.same("byte " + t + " of the last shard", vault.stored(data + 2, 0, t), 0);
            }
        }
    }

    /** "DISKS 0 .. 7 are ALIVE at first." */
    private static void disksAreZeroToSeven() {
        StripeVault vault = new StripeVault(1, 1);
        for (int disk = 0; disk < 8; disk++) {
            Due.same("room(" + disk + ")", vault.room(disk), 10);
        }
        Due.same("room(-1)", vault.room(-1), -1);
        Due.same("room(8)", vault.room(8), -1);
        Due.refused("fail(-1)", Due.ARGUMENT, () -> vault.fail(-1));
        Due.refused("fail(8)", Due.ARGUMENT, () -> vault.fail(8));
        Due.same("fail(0)", vault.fail(0), 0);
        Due.same("fail(7)", vault.fail(7), 0);
    }

    /** "..., each with 10 SLOTS 0 .. 9, all free." */
    private static void slotsAreZeroToNine() {
        StripeVault vault = new StripeVault(1, 1);
        for (int object = 0; object < 4; object++) {
            Vaults.store(vault, object, 32, 0);
        }
        Vaults.store(vault, 4, 28, 0);
        // 78 of 80 slots are taken: slot 9 of the last two disks is the last free one.
        Vaults.roomIs(vault, 0, 0, 0, 0, 0, 0, 1, 1);
        Due.refused("stored(6, 9, 0)", Due.ELEMENT, () -> vault.stored(6, 9, 0));
        Vaults.store(vault, 5, 4, 60);
        Vaults.placesAre(vault, 5, 0, 16 * 6 + 9, 16 * 7 + 9);
        Vaults.slotIs(vault, 16 * 7 + 9, 60, 61, 62, 63);
        Vaults.slotIs(vault, 0, 0, 1, 2, 3);
        Due.refused("stored(7, 10, 0)", Due.ARGUMENT, () -> vault.stored(7, 10, 0));
        Due.refused("stored(7, -1, 0)", Due.ARGUMENT, () -> vault.stored(7, -1, 0));
    }

    /** "OBJECTS 0 .. 5: there are none at first." */
    private static void objectsAreZeroToFive() {
        StripeVault vault = new StripeVault(1, 1);
        for (int object = 0; object < 6; object++) {
            Due.same("length(" + object + ")", vault.length(object), -1);
            vault.put(1, object);
            Due.same("store(" + object + ")", vault.store(object), 1);
            Due.same("length(" + object + ")", vault.length(object), 1);
        }
        vault.put(1, 1);
        Due.refused("store(-1)", Due.ARGUMENT, () -> vault.store(-1));
        Due.refused("store(6)", Due.ARGUMENT, () -> vault.store(6));
        for (int object = 0; object < 6; object++) {
            Vaults.readsAs(vault, object, 1, object);
        }
    }

    /** "A disk that FAILS is alive no more; the shards in its slots are lost, and its slots are free." */
    private static void failedDiskIsEmptyAndNotAlive() {
        StripeVault vault = Scenes.full();
        Due.same("fail(7)", vault.fail(7), 10);
        Due.same("room(7)", vault.room(7), -1);
        Due.refused("fail(7)", Due.STATE, () -> vault.fail(7));
        for (int slot = 0; slot < 10; slot++) {
            int free = slot;
            Due.refused("stored(7, " + slot + ", 0)", Due.ELEMENT, () -> vault.stored(7, free, 0));
        }
        for (int stripe = 3; stripe < 8; stripe += 4) {
            Due.same("where(0, " + stripe + ", 1)", vault.where(0, stripe, 1), -1);
            Due.same("where(0, " + stripe + ", 0)", vault.where(0, stripe, 0), 96 + stripe / 4);
        }
        Due.refused("store(5), free slots on a failed disk alone", Due.STATE, () -> vault.store(5));
        Due.same("repair()", vault.repair(), 0);
    }

    /** "A new one in its place is alive, with all slots free." */
    private static void newDiskIsEmptyAndAlive() {
        StripeVault vault = Scenes.full();
        vault.fail(7);
        Due.same("renew(7)", vault.renew(7), 8);
        Due.same("room(7)", vault.room(7), 10);
        Due.refused("renew(7)", Due.STATE, () -> vault.renew(7));
        for (int slot = 0; slot < 10; slot++) {
            int free = slot;
            Due.refused("stored(7, " + slot + ", 0)", Due.ELEMENT, () -> vault.stored(7, free, 0));
        }
        Due.same("where(0, 3, 1), still lost", vault.where(0, 3, 1), -1);
        Due.same("repair()", vault.repair(), 10);
        Due.same("room(7)", vault.room(7), 0);
        Due.same("where(0, 3, 1)", vault.where(0, 3, 1), 112);
        Due.same("where(4, 7, 1)", vault.where(4, 7, 1), 121);
    }
}
