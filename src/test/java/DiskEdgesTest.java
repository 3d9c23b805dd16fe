/** The boundaries in promises 8 to 10, a test for each. */
public final class DiskEdgesTest {
    public static void main(String[] args) {
        failCountsShards();
        failRefusesNoSuchDisk();
        failRefusesADiskNotAlive();
        renewCountsDisks();
        renewRefusesNoSuchDisk();
        renewRefusesADiskAlive();
        repairOfNothing();
        repairOfAllThatMayBeLost();
        repairPassesGoneStripesBy();
        repairPlacesThoseThatCanBe();
        repairGoesOnBehindAStripeWithoutRoom();
        repairGoesByObjectsAndStripes();
        repairLeavesShardsThatAreThere();
        Due.end();
    }

    /** Promise 8: "how many shards are lost with it": from 0 to 10. */
    private static void failCountsShards() {
        StripeVault vault = new StripeVault(1, 1);
        for (int taken = 0; taken <= 10; taken++) {
            Due.same("fail(0), " + taken + " slots taken", vault.fail(0), taken);
            Due.same("renew(0)", vault.renew(0), 8);
            if (taken < 10) {
                for (int object = 0; object < 6; object++) {
                    dropIfThere(vault, object);
                }
                fillDiskZero(vault, taken + 1);
            }
        }
        StripeVault full = Scenes.full();
        for (int disk = 0; disk < 8; disk++) {
            Due.same("fail(" + disk + ") of full disks", full.fail(disk), 10);
        }
    }

    private static void dropIfThere(StripeVault vault, int object) {
        if (vault.length(object) >= 0) {
            vault.drop(object);
        }
    }

    /** With K = M = 1 and all disks empty, every fourth stripe has a shard on disk 0. */
    private static void fillDiskZero(StripeVault vault, int slots) {
        for (int object = 0; object < slots / 2; object++) {
            Vaults.store(vault, object, 32, 0);
        }
        if (slots % 2 == 1) {
            Vaults.store(vault, 5, 16, 0);
        }
    }

    /** Promise 8: "IllegalArgumentException: there is no such disk". */
    private static void failRefusesNoSuchDisk() {
        StripeVault vault = new StripeVault(1, 1);
        Due.refused("fail(-1)", Due.ARGUMENT, () -> vault.fail(-1));
        Due.refused("fail(8)", Due.ARGUMENT, () -> vault.fail(8));
        Vaults.roomIs(vault, 10, 10, 10, 10, 10, 10, 10, 10);
        Due.same("fail(0)", vault.fail(0), 0);
        Due.same("fail(7)", vault.fail(7), 0);
        Vaults.roomIs(vault, -1, 10, 10, 10, 10, 10, 10, -1);
    }

    /** Promise 8: "IllegalStateException: it is not alive": the other disks do not matter. */
    private static void failRefusesADiskNotAlive() {
        StripeVault vault = new StripeVault(1, 1);
        for (int d = 0; d < 8; d++) {
            int disk = d;
            Due.same("fail(" + d + ")", vault.fail(disk), 0);
            Due.refused("fail(" + d + ") again", Due.STATE, () -> vault.fail(disk));
        }
        vault.renew(4);
        Due.same("fail(4), a new one", vault.fail(4), 0);
        Due.refused("fail(4) again", Due.STATE, () -> vault.fail(4));
    }

    /** Promise 9: "Answers how many are alive then": from 1 to 8. */
    private static void renewCountsDisks() {
        StripeVault vault = Scenes.dead();
        for (int disk = 0; disk < 8; disk++) {
            Due.same("renew(" + disk + ")", vault.renew(disk), disk + 1);
            Due.same("room(" + disk + ")", vault.room(disk), 10);
        }
        vault.fail(3);
        Due.same("renew(3)", vault.renew(3), 8);
    }

    /** Promise 9: "IllegalArgumentException: there is no such disk". */
    private static void renewRefusesNoSuchDisk() {
        StripeVault vault = Scenes.dead();
        Due.refused("renew(-1)", Due.ARGUMENT, () -> vault.renew(-1));
        Due.refused("renew(8)", Due.ARGUMENT, () -> vault.renew(8));
        Due.same("renew(0)", vault.renew(0), 1);
        Due.same("renew(7)", vault.renew(7), 2);
    }

    /** Promise 9: "IllegalStateException: it is alive": and keeps what it has. */
    private static void renewRefusesADiskAlive() {
        StripeVault vault = Scenes.full();
        for (int d = 0; d < 8; d++) {
            int disk = d;
            Due.refused("renew(" + d + ")", Due.STATE, () -> vault.renew(disk));
        }
        Vaults.roomIs(vault, 0, 0, 0, 0, 0, 0, 0, 0);
        Vaults.readsAs(vault, 4, 32, 160);
        vault.fail(7);
        vault.renew(7);
        Due.refused("renew(7) again", Due.STATE, () -> vault.renew(7));
    }

    /** Promise 10: "if it ... has lost shards": 0 without objects, and without losses. */
    private static void repairOfNothing() {
        Unmoved.answers(Scenes::fresh, "repair(), no objects", 0, StripeVault::repair);
        Unmoved.answers(Scenes::nearlyFull, "repair(), nothing lost", 0, StripeVault::repair);
        StripeVault vault = Vaults.with(2, 2, 8, 1);
        vault.fail(7);
        Due.same("repair(), an empty disk failed", vault.repair(), 0);
        vault.harm(0, 0, 0, 1);
        Due.same("repair(), harmed but not lost", vault.repair(), 0);
        Due.same("check(0)", vault.check(0), 1);
    }

    /** Promise 10: "if it is not gone": M lost shards are all placed, M + 1 are none. */
    private static void repairOfAllThatMayBeLost() {
        for (int data = 1; data <= 4; data++) {
            for (int more = 1; more <= 3; more++) {
                StripeVault vault = Vaults.with(data, more, 4 * data, 77);
                failAndRenew(vault, more);
                Due.same("repair(), M lost", vault.repair(), more);
                Due.same("check(0)", vault.check(0), 0);
                Vaults.readsAs(vault, 0, 4 * data, 77);
                StripeVault gone = Vaults.with(data, more, 4 * data, 77);
                failAndRenew(gone, more + 1);
                Due.same("repair(), M + 1 lost", gone.repair(), 0);
                Due.refused("get(0)", Due.STATE, () -> gone.get(0));
                Due.same("drop(0)", gone.drop(0), data - 1);
            }
        }
    }

    private static void failAndRenew(StripeVault vault, int count) {
        for (int disk = 0; disk < count; disk++) {
            vault.fail(disk);
        }
        for (int disk = 0; disk < count; disk++) {
            vault.renew(disk);
        }
    }

    /** Promise 10: a stripe that is gone takes no slot, and those behind it are repaired. */
    private static void repairPassesGoneStripesBy() {
        StripeVault vault = Scenes.torn();
        Due.same("repair()", vault.repair(), 1);
        Vaults.placesAre(vault, 1, 1, -1, -1);
        Vaults.placesAre(vault, 4, 0, 48, 112);
        Vaults.slotIs(vault, 48, 60, 61, 62 ^ 5, 63);
        Vaults.roomIs(vault, 8, 8, -1, 9, 9, 9, -1, 9);
        Due.refused("get(1)", Due.STATE, () -> vault.get(1));
    }

    /** Promise 10: "placed, those that can be": 0, 1, 2 or 3 disks for 3 lost shards. */
    private static void repairPlacesThoseThatCanBe() {
        for (int spare = 0; spare <= 3; spare++) {
            StripeVault vault = Vaults.with(2, 3, 8, 40);
            vault.fail(1);
            vault.fail(3);
            vault.fail(4);
            for (int disk = 5 + spare; disk < 8; disk++) {
                vault.fail(disk);
            }
            Due.same("repair(), " + spare + " disks to spare", vault.repair(), spare);
            Vaults.placesAre(vault, 0, 0, 0, spare > 0 ? 80 : -1, 32, spare > 1 ? 96 : -1, spare > 2 ? 112 : -1);
            Due.same("repair() again", vault.repair(), 0);
            Vaults.readsAs(vault, 0, 8, 40);
            vault.renew(1);
            Due.same("repair(), a disk more", vault.repair(), spare < 3 ? 1 : 0);
            Due.same("check(0)", vault.check(0), 0);
        }
    }

    /** Promise 10: a shard that finds no disk does not keep the next stripe's from theirs. */
    private static void repairGoesOnBehindAStripeWithoutRoom() {
        StripeVault vault = new StripeVault(1, 1);
        for (int disk = 3; disk < 8; disk++) {
            vault.fail(disk);
        }
        // Three disks in turn: stripes lie on 0 and 1, on 2 and 0, on 1 and 2, and so on.
        Vaults.store(vault, 0, 32, 0);
        Vaults.store(vault, 1, 4, 0);
        Vaults.store(vault, 2, 4, 0);
        Vaults.store(vault, 3, 20, 0);
        Vaults.placesAre(vault, 0, 0, 0, 16);
        Vaults.placesAre(vault, 0, 1, 32, 1);
        Vaults.placesAre(vault, 2, 0, 6, 22);
        vault.fail(0);
        Due.same("drop(2)", vault.drop(2), 1);
        Vaults.roomIs(vault, -1, 1, 0);
        // The one free slot is on disk 1, where stripe 0 has a shard, and stripe 1 has none.
        Due.same("repair(), a slot for the second stripe", vault.repair(), 1);
        Vaults.placesAre(vault, 0, 0, -1, 16);
        Vaults.placesAre(vault, 0, 1, 32, 22);
        Vaults.roomIs(vault, -1, 0, 0);
        Vaults.readsAs(vault, 0, 32, 0);
    }

    /** Promise 10: "For each object, by number, and each of its stripes": who is first takes the last slot. */
    private static void repairGoesByObjectsAndStripes() {
        StripeVault vault = new StripeVault(1, 1);
        for (int disk = 2; disk < 8; disk++) {
            vault.fail(disk);
        }
        Vaults.store(vault, 5, 4, 50);
        Vaults.store(vault, 2, 4, 20);
        Vaults.store(vault, 0, 32, 0);
        Vaults.roomIs(vault, 0, 0);
        vault.fail(1);
        vault.renew(1);
        Due.same("repair()", vault.repair(), 10);
        for (int stripe = 0; stripe < 8; stripe++) {
            Due.same("where(0, " + stripe + ", 1)", vault.where(0, stripe, 1), 16 + stripe);
        }
        Due.same("where(2, 0, 1)", vault.where(2, 0, 1), 24);
        Due.same("where(5, 0, 1)", vault.where(5, 0, 1), 25);
    }

    /** Promise 10: "its lost shards ... placed": the others stay, harmed or not, where they are. */
    private static void repairLeavesShardsThatAreThere() {
        StripeVault vault = new StripeVault(2, 2);
        vault.put(8, 0x0102030405060708L);
        vault.store(0);
        vault.harm(3, 0, 0, 255);
        int harmed = vault.stored(3, 0, 0);
        vault.fail(2);
        Due.same("repair()", vault.repair(), 1);
        Vaults.placesAre(vault, 0, 0, 0, 16, 64, 48);
        Due.same("stored(3, 0, 0)", vault.stored(3, 0, 0), harmed);
        for (int t = 0; t < 4; t++) {
            Due.same("stored(4, 0, " + t + ")", vault.stored(4, 0, t), Bytes.shardByte(2, 1 + t, 5 + t));
        }
        Vaults.readsAs(vault, 0, 8, 1);
    }
}
