/** The boundaries in promises 11 to 17, a test for each. */
public final class LookEdgesTest {
    public static void main(String[] args) {
        checkCountsStripes();
        checkLeavesGoneStripesOut();
        checkLeavesLostShardsOut();
        checkRefusesWhereThereIsNone();
        harmTakesBytesZeroToThree();
        harmTakesTheLowestEightBits();
        harmAndStoredRefuseNoSuchDisk();
        harmAndStoredRefuseNoSuchSlot();
        harmAndStoredRefuseNoSuchByte();
        harmAndStoredRefuseAFreeSlot();
        whereTellsFirstAndLast();
        whereIsNoneWhenLost();
        whereRefusesNoSuchObject();
        whereRefusesNoSuchStripeOrShard();
        lengthIsNoneWhereThereIsNone();
        roomGoesFromTenToZero();
        roomIsNoneWithoutDisk();
        productTakesBytes();
        productRefusesOthers();
        productOfZeroHasNoInverse();
        Due.end();
    }

    /** Promise 11: "How many stripes of an object": from none to all 8. */
    private static void checkCountsStripes() {
        StripeVault vault = Vaults.with(1, 1, 32, 1);
        Due.same("check(0), none", vault.check(0), 0);
        for (int stripe = 0; stripe < 8; stripe++) {
            int place = vault.where(0, stripe, stripe % 2);
            vault.harm(place / 16, place % 16, stripe % 4, 1);
            Due.same("check(0), stripes 0 .. " + stripe, vault.check(0), stripe + 1);
        }
        StripeVault other = Vaults.with(1, 1, 32, 1);
        Vaults.store(other, 5, 4, 1);
        other.harm(0, 0, 0, 1);
        Due.same("check(5), another object harmed", other.check(5), 0);
    }

    /** Promise 11: "of those that are not gone": M lost shards count, M + 1 do not. */
    private static void checkLeavesGoneStripesOut() {
        for (int data = 1; data <= 4; data++) {
            StripeVault vault = Vaults.with(data, 3, 4 * data, 1);
            vault.harm(data + 2, 0, 3, 1);
            vault.fail(0);
            Due.same("check(0), 1 lost", vault.check(0), 1);
            vault.fail(1);
            Due.same("check(0), M - 1 lost", vault.check(0), 1);
            vault.fail(2);
            Due.same("check(0), M lost: K shards are as some data have them", vault.check(0), 0);
            vault.fail(data + 2);
            Due.same("check(0), gone", vault.check(0), 0);
        }
    }

    /** Promise 11: "have a shard that is not lost and not as it is worked out". */
    private static void checkLeavesLostShardsOut() {
        StripeVault vault = Vaults.with(2, 2, 8, 1);
        vault.fail(3);
        Due.same("check(0), lost is not wrong", vault.check(0), 0);
        vault.harm(2, 0, 0, 1);
        Due.same("check(0)", vault.check(0), 1);
        vault.fail(2);
        Due.same("check(0), the wrong one lost", vault.check(0), 0);
        vault.renew(3);
        Due.same("repair()", vault.repair(), 2);
        Due.same("check(0), repaired", vault.check(0), 0);
    }

    /** Promise 11: "NoSuchElementException: there is no such object". */
    private static void checkRefusesWhereThereIsNone() {
        StripeVault vault = new StripeVault(1, 1);
        Vaults.store(vault, 0, 4, 1);
        Vaults.store(vault, 5, 4, 1);
        for (int o : new int[] {-1, 1, 4, 6}) {
            Due.refused("check(" + o + ")", Due.ELEMENT, () -> vault.check(o));
        }
        Due.same("check(0)", vault.check(0), 0);
        Due.same("check(5)", vault.check(5), 0);
        vault.drop(5);
        Due.refused("check(5), dropped", Due.ELEMENT, () -> vault.check(5));
    }

    /** Promise 12: "Byte i (0 .. 3) of a slot": that byte alone, on the first slot and the last one. */
    private static void harmTakesBytesZeroToThree() {
        for (int i = 0; i < 4; i++) {
            StripeVault vault = Scenes.full();
            int[] first = {0, 1, 2, 3};
            int[] last = {188, 189, 190, 191};
            Vaults.slotIs(vault, 0, first);
            Vaults.slotIs(vault, 16 * 7 + 9, last);
            Due.same("harm(0, 0, " + i + ", 255)", vault.harm(0, 0, i, 255), first[i] ^ 255);
            Due.same("harm(7, 9, " + i + ", 1)", vault.harm(7, 9, i, 1), last[i] ^ 1);
            first[i] ^= 255;
            last[i] ^= 1;
            Vaults.slotIs(vault, 0, first);
            Vaults.slotIs(vault, 16 * 7 + 9, last);
            Vaults.slotIs(vault, 1, 32 - 16, 17, 18, 19);
            Vaults.slotIs(vault, 16 * 7 + 8, 172, 173, 174, 175);
        }
    }

    /** Promise 12: "xored with the lowest eight bits of x". */
    private static void harmTakesTheLowestEightBits() {
        int[] x = {0, 1, 128, 255, 256, 257, 511, -1, -256, -255, Integer.MIN_VALUE, Integer.MAX_VALUE};
        int[] bits = {0, 1, 128, 255, 0, 1, 255, 255, 0, 1, 0, 255};
        for (int i = 0; i < x.length; i++) {
            StripeVault vault = Vaults.with(1, 1, 4, 170);
            int xored = x[i];
            Due.same("harm(0, 0, 0, " + xored + ")", vault.harm(0, 0, 0, xored), 170 ^ bits[i]);
            Due.same("stored(0, 0, 0)", vault.stored(0, 0, 0), 170 ^ bits[i]);
            Due.same("harm(0, 0, 0, " + xored + ") again", vault.harm(0, 0, 0, xored), 170);
        }
    }

    /** Promises 12 and 13: "IllegalArgumentException: there is no such disk". */
    private static void harmAndStoredRefuseNoSuchDisk() {
        StripeVault vault = Scenes.full();
        refused(vault, Due.ARGUMENT, -1, 0, 0);
        refused(vault, Due.ARGUMENT, 8, 0, 0);
        taken(vault, 0, 0, 0);
        taken(vault, 7, 0, 0);
    }

    /** Promises 12 and 13: "IllegalArgumentException: there is no such ... slot". */
    private static void harmAndStoredRefuseNoSuchSlot() {
        StripeVault vault = Scenes.full();
        for (int disk = 0; disk < 8; disk++) {
            refused(vault, Due.ARGUMENT, disk, -1, 0);
            refused(vault, Due.ARGUMENT, disk, 10, 0);
            taken(vault, disk, 0, 0);
            taken(vault, disk, 9, 0);
        }
    }

    /** Promises 12 and 13: "IllegalArgumentException: there is no such ... byte". */
    private static void harmAndStoredRefuseNoSuchByte() {
        StripeVault vault = Scenes.full();
        for (int slot = 0; slot < 10; slot++) {
            refused(vault, Due.ARGUMENT, 3, slot, -1);
            refused(vault, Due.ARGUMENT, 3, slot, 4);
            taken(vault, 3, slot, 0);
            taken(vault, 3, slot, 3);
        }
    }

    /** Promises 12 and 13: "NoSuchElementException: it is free": never taken, dropped, failed, or new. */
    private static void harmAndStoredRefuseAFreeSlot() {
        StripeVault vault = Vaults.with(1, 1, 8, 1);
        taken(vault, 0, 0, 0);
        refused(vault, Due.ELEMENT, 0, 1, 0);
        refused(vault, Due.ELEMENT, 7, 9, 3);
        vault.fail(0);
        refused(vault, Due.ELEMENT, 0, 0, 0);
        vault.renew(0);
        refused(vault, Due.ELEMENT, 0, 0, 0);
        vault.repair();
        vault.drop(0);
        for (int disk = 0; disk < 8; disk++) {
            refused(vault, Due.ELEMENT, disk, 0, 3);
        }
    }

    private static void refused(StripeVault vault, Class<? extends RuntimeException> due, int disk, int slot, int i) {
        String at = disk + ", " + slot + ", " + i;
        Due.refused("harm(" + at + ", 255)", due, () -> vault.harm(disk, slot, i, 255));
        Due.refused("stored(" + at + ")", due, () -> vault.stored(disk, slot, i));
    }

    private static void taken(StripeVault vault, int disk, int slot, int i) {
        String at = disk + ", " + slot + ", " + i;
        int before = vault.stored(disk, slot, i);
        Due.same("harm(" + at + ", 1)", vault.harm(disk, slot, i, 1), before ^ 1);
        Due.same("stored(" + at + ")", vault.stored(disk, slot, i), before ^ 1);
    }

    /** Promise 14: "16 * the disk + the slot": from 0 to 16 * 7 + 9. */
    private static void whereTellsFirstAndLast() {
        StripeVault vault = Scenes.full();
        Due.same("where(0, 0, 0)", vault.where(0, 0, 0), 0);
        Due.same("where(0, 0, 1)", vault.where(0, 0, 1), 16);
        Due.same("where(0, 4, 0)", vault.where(0, 4, 0), 1);
        Due.same("where(4, 7, 0)", vault.where(4, 7, 0), 105);
        Due.same("where(4, 7, 1)", vault.where(4, 7, 1), 121);
    }

    /** Promise 14: "NONE when it is lost": until it is placed again. */
    private static void whereIsNoneWhenLost() {
        StripeVault vault = Vaults.with(1, 1, 4, 1);
        vault.fail(0);
        Due.same("where(0, 0, 0), lost", vault.where(0, 0, 0), StripeVault.NONE);
        Due.same("where(0, 0, 1)", vault.where(0, 0, 1), 16);
        vault.renew(0);
        Due.same("where(0, 0, 0), the disk new", vault.where(0, 0, 0), -1);
        vault.repair();
        Due.same("where(0, 0, 0), placed", vault.where(0, 0, 0), 0);
    }

    /** Promise 14: "NoSuchElementException: there is no such object". */
    private static void whereRefusesNoSuchObject() {
        StripeVault vault = new StripeVault(1, 1);
        Vaults.store(vault, 0, 4, 1);
        Vaults.store(vault, 5, 4, 1);
        for (int o : new int[] {-1, 1, 4, 6}) {
            Due.refused("where(" + o + ", 0, 0)", Due.ELEMENT, () -> vault.where(o, 0, 0));
            Due.refused("where(" + o + ", 1, 2)", Due.ELEMENT, () -> vault.where(o, 1, 2));
        }
        Due.same("where(0, 0, 0)", vault.where(0, 0, 0), 0);
        Due.same("where(5, 0, 0)", vault.where(5, 0, 0), 32);
        vault.drop(5);
        Due.refused("where(5, 0, 0), dropped", Due.ELEMENT, () -> vault.where(5, 0, 0));
    }

    /** Promise 14: "IndexOutOfBoundsException: it has no such stripe or shard": also where another object has. */
    private static void whereRefusesNoSuchStripeOrShard() {
        StripeVault vault = new StripeVault(2, 2);
        Vaults.store(vault, 0, 32, 1);
        Vaults.store(vault, 1, 9, 1);
        int[] stripes = {4, 2};
        for (int o = 0; o < 2; o++) {
            int object = o;
            int last = stripes[o] - 1;
            Due.same("the first shard", vault.where(object, 0, 0) >= 0, true);
            Due.same("the last shard", vault.where(object, last, 3) >= 0, true);
            Due.refused("where, stripe -1", Due.INDEX, () -> vault.where(object, -1, 0));
            Due.refused("where, stripe " + (last + 1), Due.INDEX, () -> vault.where(object, last + 1, 0));
            Due.refused("where, shard -1", Due.INDEX, () -> vault.where(object, last, -1));
            Due.refused("where, shard 4", Due.INDEX, () -> vault.where(object, 0, 4));
            Due.refused("where, shard 4 of the last", Due.INDEX, () -> vault.where(object, last, 4));
        }
    }

    /** Promise 15: "The length of an object; NONE when there is none". */
    private static void lengthIsNoneWhereThereIsNone() {
        StripeVault vault = new StripeVault(4, 1);
        Vaults.store(vault, 0, 1, 1);
        Vaults.store(vault, 5, 32, 1);
        int[] numbers = {-1, 0, 1, 4, 5, 6};
        int[] due = {-1, 1, -1, -1, 32, -1};
        for (int i = 0; i < numbers.length; i++) {
            Due.same("length(" + numbers[i] + ")", vault.length(numbers[i]), due[i]);
        }
        vault.drop(5);
        Due.same("length(5), dropped", vault.length(5), StripeVault.NONE);
        vault.put(1, 1);
        Due.same("length(5), a draft is no object", vault.length(5), -1);
        Due.same("length(5), gone but there", Scenes.dead().length(5), 32);
    }

    /** Promise 16: "How many slots of a disk are free": from 10 to 0. */
    private static void roomGoesFromTenToZero() {
        StripeVault vault = new StripeVault(1, 1);
        for (int disk = 2; disk < 8; disk++) {
            vault.fail(disk);
        }
        for (int taken = 0; taken < 8; taken++) {
            dropAndStore(vault, taken);
            Vaults.roomIs(vault, 10 - taken, 10 - taken);
        }
        Vaults.store(vault, 1, 12, 0);
        Vaults.roomIs(vault, 0, 0);
        vault.drop(1);
        Vaults.roomIs(vault, 3, 3);
    }

    private static void dropAndStore(StripeVault vault, int stripes) {
        if (vault.length(0) > 0) {
            vault.drop(0);
        }
        if (stripes > 0) {
            Vaults.store(vault, 0, 4 * stripes, 0);
        }
    }

    /** Promise 16: "NONE when it is not alive, or there is none such". */
    private static void roomIsNoneWithoutDisk() {
        StripeVault vault = new StripeVault(1, 1);
        Due.same("room(-1)", vault.room(-1), StripeVault.NONE);
        Due.same("room(0)", vault.room(0), 10);
        Due.same("room(7)", vault.room(7), 10);
        Due.same("room(8)", vault.room(8), StripeVault.NONE);
        vault.fail(0);
        vault.fail(7);
        Due.same("room(0), failed", vault.room(0), StripeVault.NONE);
        Due.same("room(7), failed", vault.room(7), StripeVault.NONE);
        Due.same("room(6)", vault.room(6), 10);
        vault.renew(7);
        Due.same("room(7), new", vault.room(7), 10);
    }

    /** Promise 17: "a * b, 1 / a for b = -1": 0 and 255 on both sides. */
    private static void productTakesBytes() {
        StripeVault vault = new StripeVault(1, 1);
        Due.same("product(0, 0)", vault.product(0, 0), 0);
        Due.same("product(0, 255)", vault.product(0, 255), 0);
        Due.same("product(255, 0)", vault.product(255, 0), 0);
        Due.same("product(255, 1)", vault.product(255, 1), 255);
        Due.same("product(1, 255)", vault.product(1, 255), 255);
        Due.same("product(255, 255)", vault.product(255, 255), Bytes.times(255, 255));
        Due.same("product(1, -1)", vault.product(1, -1), 1);
        Due.same("product(255, -1)", vault.product(255, -1), Bytes.inverse(255));
    }

    /** Promise 17: "IllegalArgumentException: a is no byte, or b is none and not -1". */
    private static void productRefusesOthers() {
        StripeVault vault = new StripeVault(1, 1);
        for (int other : new int[] {0, 1, 255, -1}) {
            Due.refused("product(-1, " + other + ")", Due.ARGUMENT, () -> vault.product(-1, other));
            Due.refused("product(256, " + other + ")", Due.ARGUMENT, () -> vault.product(256, other));
        }
        for (int other : new int[] {0, 1, 255}) {
            Due.refused("product(" + other + ", -2)", Due.ARGUMENT, () -> vault.product(other, -2));
            Due.refused("product(" + other + ", 256)", Due.ARGUMENT, () -> vault.product(other, 256));
        }
    }

    /** Promise 17: "ArithmeticException: 1 / 0": and no other a. */
    private static void productOfZeroHasNoInverse() {
        StripeVault vault = new StripeVault(1, 1);
        Due.refused("product(0, -1)", Due.ARITHMETIC, () -> vault.product(0, -1));
        for (int a = 1; a < 256; a++) {
            Due.same("product(" + a + ", -1)", vault.product(a, -1), Bytes.inverse(a));
        }
    }
}
