/** Promise 10: repair. */
public final class RepairTest {
    public static void main(String[] args) {
        placesWhatWasLost();
        worksOutDataAndMore();
        goesByObjectAndStripe();
        leavesGoneStripes();
        placesThoseThatCanBe();
        carriesHarmOn();
        Due.end();
    }

    private static void placesWhatWasLost() {
        StripeVault vault = Vaults.with(2, 2, 16, 1);
        Due.same("repair(), nothing lost", vault.repair(), 0);
        vault.fail(0);
        vault.fail(6);
        Due.same("repair()", vault.repair(), 2);
        Vaults.placesAre(vault, 0, 0, 65, 16, 32, 48);
        Vaults.placesAre(vault, 0, 1, 64, 80, 17, 112);
        Due.same("repair() again", vault.repair(), 0);
        Due.same("check(0)", vault.check(0), 0);
        vault.fail(1);
        vault.fail(2);
        Vaults.readsAs(vault, 0, 16, 1);
    }

    private static void worksOutDataAndMore() {
        StripeVault vault = new StripeVault(2, 2);
        vault.put(8, 0x0100020301030080L);
        vault.store(0);
        int[] last = new int[4];
        int[] before = new int[4];
        for (int i = 0; i < 4; i++) {
            before[i] = vault.stored(2, 0, i);
            last[i] = vault.stored(3, 0, i);
        }
        vault.fail(1);
        vault.fail(3);
        Due.same("repair()", vault.repair(), 2);
        Vaults.placesAre(vault, 0, 0, 0, 64, 32, 80);
        Vaults.slotIs(vault, 64, 1, 3, 0, 128);
        Vaults.slotIs(vault, 80, last);
        vault.fail(0);
        vault.fail(2);
        Due.same("repair()", vault.repair(), 2);
        Vaults.placesAre(vault, 0, 0, 96, 64, 112, 80);
        Vaults.slotIs(vault, 96, 1, 0, 2, 3);
        Vaults.slotIs(vault, 112, before);
    }

    private static void goesByObjectAndStripe() {
        StripeVault vault = new StripeVault(1, 1);
        Vaults.store(vault, 4, 16, 40);
        Vaults.store(vault, 1, 16, 80);
        vault.fail(1);
        vault.fail(2);
        Due.same("repair()", vault.repair(), 4);
        // Object 1 comes first although object 4 lies in the lower slots.
        Vaults.placesAre(vault, 1, 0, 1, 50);
        Vaults.placesAre(vault, 1, 1, 2, 49);
        Vaults.placesAre(vault, 4, 0, 0, 66);
        Vaults.placesAre(vault, 4, 1, 82, 48);
        Vaults.readsAs(vault, 4, 16, 40);
        Vaults.readsAs(vault, 1, 16, 80);
    }

    private static void leavesGoneStripes() {
        StripeVault vault = Vaults.with(1, 1, 12, 0);
        vault.fail(0);
        vault.fail(1);
        vault.fail(2);
        Due.same("repair()", vault.repair(), 1);
        Vaults.placesAre(vault, 0, 0, -1, -1);
        Vaults.placesAre(vault, 0, 1, 96, 48);
        Vaults.placesAre(vault, 0, 2, 64, 80);
        Due.refused("get(0)", Due.STATE, () -> vault.get(0));
    }

    private static void placesThoseThatCanBe() {
        StripeVault vault = Vaults.with(4, 3, 16, 9);
        vault.fail(0);
        vault.fail(4);
        Due.same("repair(), one disk left over", vault.repair(), 1);
        Vaults.placesAre(vault, 0, 0, 112, 16, 32, 48, -1, 80, 96);
        Due.same("repair(), no disk left over", vault.repair(), 0);
        vault.renew(4);
        Due.same("repair()", vault.repair(), 1);
        Vaults.placesAre(vault, 0, 0, 112, 16, 32, 48, 64, 80, 96);
        Due.same("check(0)", vault.check(0), 0);
        Vaults.readsAs(vault, 0, 16, 9);
    }

    /** Whatever is read is taken for the data, and the shards that are there stay as they are. */
    private static void carriesHarmOn() {
        StripeVault vault = new StripeVault(1, 3);
        vault.put(4, 0x05060708L);
        vault.store(0);
        vault.harm(0, 0, 0, 4);
        vault.fail(1);
        Due.same("repair()", vault.repair(), 1);
        Vaults.placesAre(vault, 0, 0, 0, 64, 32, 48);
        Vaults.slotIs(vault, 64, 1, 6, 7, 8);
        Due.same("check(0)", vault.check(0), 1);
        vault.fail(0);
        vault.fail(4);
        Due.same("repair()", vault.repair(), 2);
        Vaults.slotIs(vault, 80, 5, 6, 7, 8);
        Vaults.slotIs(vault, 96, 5, 6, 7, 8);
        Due.same("check(0)", vault.check(0), 0);
    }
}
