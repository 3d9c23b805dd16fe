/** The boundaries in the sentence on PLACING, as store() and repair() meet them. */
public final class PlacingEdgesTest {
    public static void main(String[] args) {
        leastNumberAmongEqualDisks();
        mostFreeSlotsBeforeLeastNumber();
        leastFreeSlot();
        noDiskThatIsNotAlive();
        noDiskWithoutFreeSlot();
        for (int data = 1; data <= 4; data++) {
            for (int more = 1; more <= 3; more++) {
                noTwoShardsOfAStripeOnADisk(data, more);
            }
        }
        shardsByTheirNumbers();
        stripesOfAnObjectMayShareDisks();
        Due.end();
    }

    /** "..., of several the one with the least number." */
    private static void leastNumberAmongEqualDisks() {
        StripeVault vault = Vaults.with(4, 3, 16, 0);
        Vaults.placesAre(vault, 0, 0, 0, 16, 32, 48, 64, 80, 96);
        // Disk 7 alone has 10 free slots now, and the others are equal again.
        Vaults.store(vault, 1, 16, 0);
        Vaults.placesAre(vault, 1, 0, 112, 1, 17, 33, 49, 65, 81);
    }

    /** "... the disk that ... has the most free slots": one more is enough. */
    private static void mostFreeSlotsBeforeLeastNumber() {
        StripeVault vault = new StripeVault(1, 1);
        for (int object = 0; object < 4; object++) {
            Vaults.store(vault, object, 4, 0);
        }
        vault.drop(3);
        vault.drop(1);
        Vaults.roomIs(vault, 9, 9, 10, 10, 9, 9, 10, 10);
        Vaults.store(vault, 1, 12, 0);
        Vaults.placesAre(vault, 1, 0, 32, 48);
        Vaults.placesAre(vault, 1, 1, 96, 112);
        Vaults.placesAre(vault, 1, 2, 1, 17);
    }

    /** "... each in the least free slot of the disk". */
    private static void leastFreeSlot() {
        StripeVault vault = Scenes.full();
        vault.drop(4);
        vault.drop(0);
        vault.scrap();
        // Slots 0, 1, 8 and 9 of every disk are free.
        Vaults.store(vault, 5, 32, 0);
        Vaults.placesAre(vault, 5, 0, 0, 16);
        Vaults.placesAre(vault, 5, 4, 1, 17);
        Vaults.store(vault, 0, 32, 0);
        Vaults.placesAre(vault, 0, 0, 8, 24);
        Vaults.placesAre(vault, 0, 7, 96 + 9, 112 + 9);
    }

    /** "... of the disk that is alive": a failed disk has all its slots free, and is passed by. */
    private static void noDiskThatIsNotAlive() {
        StripeVault vault = new StripeVault(1, 1);
        for (int disk = 0; disk < 7; disk++) {
            vault.fail(disk);
        }
        vault.put(1, 1);
        Due.refused("store(0), one disk for two shards", Due.STATE, () -> vault.store(0));
        vault.renew(3);
        Due.same("store(0), two disks", vault.store(0), 1);
        Vaults.placesAre(vault, 0, 0, 48, 112);
        vault.fail(3);
        Due.same("repair(), no other disk", vault.repair(), 0);
        Due.same("where(0, 0, 0)", vault.where(0, 0, 0), -1);
        vault.renew(0);
        Due.same("repair(), another disk", vault.repair(), 1);
        Due.same("where(0, 0, 0)", vault.where(0, 0, 0), 0);
    }

    /** "... has a free slot": the last free one is taken, and then no other. */
    private static void noDiskWithoutFreeSlot() {
        StripeVault vault = new StripeVault(1, 1);
        for (int disk = 2; disk < 8; disk++) {
            vault.fail(disk);
        }
        Vaults.store(vault, 0, 32, 0);
        Vaults.store(vault, 1, 4, 0);
        Vaults.roomIs(vault, 1, 1);
        Vaults.store(vault, 2, 4, 9);
        Vaults.placesAre(vault, 2, 0, 9, 25);
        Vaults.roomIs(vault, 0, 0);
        vault.put(1, 1);
        Due.refused("store(3), no slot free", Due.STATE, () -> vault.store(3));
        vault.renew(7);
        Due.refused("store(3), free slots on one disk", Due.STATE, () -> vault.store(3));
        Due.same("room(7)", vault.room(7), 10);
        vault.renew(6);
        Due.same("store(3)", vault.store(3), 1);
        Vaults.placesAre(vault, 3, 0, 96, 112);
    }

    /** "... and none of this stripe's shards": K + M disks are enough, and one less is not. */
    private static void noTwoShardsOfAStripeOnADisk(int data, int more) {
        int shards = data + more;
        StripeVault vault = new StripeVault(data, more);
        for (int disk = 0; disk < 8 - shards; disk++) {
            vault.fail(disk);
        }
        vault.put(1, 200);
        Due.same("store(0) on " + shards + " disks", vault.store(0), 1);
        for (int s = 0; s < shards; s++) {
            Due.same("where(0, 0, " + s + ")", vault.where(0, 0, s), 16 * (8 - shards + s));
        }
        Due.same("fail(7)", vault.fail(7), 1);
        Due.same("repair(), each disk alive has a shard", vault.repair(), 0);
        vault.put(1, 1);
        Due.refused("store(1) on " + (shards - 1) + " disks", Due.STATE, () -> vault.store(1));
        vault.renew(7);
        Due.same("repair()", vault.repair(), 1);
        Due.same("where of the last shard", vault.where(0, 0, shards - 1), 112);
        Due.same("store(1)", vault.store(1), 1);
    }

    /** "One after the other, by their numbers": each placing is seen by the next. */
    private static void shardsByTheirNumbers() {
        StripeVault vault = Vaults.with(2, 3, 8, 0);
        vault.fail(4);
        vault.fail(1);
        vault.fail(2);
        Due.same("repair()", vault.repair(), 3);
        Vaults.placesAre(vault, 0, 0, 0, 80, 96, 48, 112);
        StripeVault few = Vaults.with(2, 3, 8, 0);
        few.fail(1);
        few.fail(2);
        few.fail(5);
        few.fail(6);
        Due.same("repair(), one disk for two shards", few.repair(), 1);
        Vaults.placesAre(few, 0, 0, 0, 112, -1, 48, 64);
    }

    /** The disk must have none of this stripe's shards; those of another stripe do not count. */
    private static void stripesOfAnObjectMayShareDisks() {
        StripeVault vault = new StripeVault(4, 3);
        vault.fail(0);
        Vaults.store(vault, 0, 32, 5);
        Vaults.placesAre(vault, 0, 0, 16, 32, 48, 64, 80, 96, 112);
        Vaults.placesAre(vault, 0, 1, 17, 33, 49, 65, 81, 97, 113);
        vault.fail(7);
        vault.renew(0);
        Due.same("repair(), both stripes on disk 0", vault.repair(), 2);
        Due.same("where(0, 0, 6)", vault.where(0, 0, 6), 0);
        Due.same("where(0, 1, 6)", vault.where(0, 1, 6), 1);
    }
}
