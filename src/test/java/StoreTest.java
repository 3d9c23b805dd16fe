/** Promise 4: store, and what the terms say of stripes, shards and placing. */
public final class StoreTest {
    public static void main(String[] args) {
        countsStripes();
        worksOutShards();
        padsWithZeros();
        placesOnTheRoomiestDisk();
        takesTheLeastFreeSlot();
        placesOnlyOnDisksAlive();
        refusesBadNumbers();
        changesNothingWhenRefused();
        needsOneDiskForEachShard();
        undoesHalfAnObject();
        Due.end();
    }

    private static void countsStripes() {
        for (int data = 1; data <= 4; data++) {
            for (int length = 1; length <= 32; length++) {
                StripeVault vault = new StripeVault(data, 1);
                Vaults.fillDraft(vault, length, 0);
                int due = 0;
                while (due * 4 * data < length) {
                    due++;
                }
                Due.same("store(0) of " + length + " bytes, K = " + data, vault.store(0), due);
                Due.same("length(0)", vault.length(0), length);
                Vaults.readsAs(vault, 0, length, 0);
            }
        }
    }

    /** 1 / 2 is 142 and 1 / 3 is 244, as 2 * 142 = 284 = 285 ^ 1 and 3 * 244 = 244 ^ 245. */
    private static void worksOutShards() {
        StripeVault one = new StripeVault(1, 3);
        one.put(4, 0x01020380L);
        one.store(0);
        Vaults.slotIs(one, 0, 1, 2, 3, 128);
        Vaults.slotIs(one, 16, 1, 2, 3, 128);
        Vaults.slotIs(one, 32, 142, 1, 143, 64);
        Vaults.slotIs(one, 48, 244, 245, 1, Bytes.times(244, 128));

        StripeVault two = new StripeVault(2, 1);
        two.put(8, 0x0100020301030080L);
        two.store(0);
        Vaults.slotIs(two, 0, 1, 0, 2, 3);
        Vaults.slotIs(two, 16, 1, 3, 0, 128);
        Vaults.slotIs(two, 32, 142 ^ 244, 1, 1, 143 ^ Bytes.times(244, 128));
    }

    private static void padsWithZeros() {
        StripeVault vault = Vaults.with(2, 1, 32, 100);
        vault.drop(0);
        Vaults.store(vault, 0, 9, 1);
        Vaults.placesAre(vault, 0, 1, 48, 64, 80);
        Vaults.slotIs(vault, 48, 9, 0, 0, 0);
        Vaults.slotIs(vault, 64, 0, 0, 0, 0);
        Vaults.slotIs(vault, 80, Bytes.times(142, 9), 0, 0, 0);
    }

    private static void placesOnTheRoomiestDisk() {
        StripeVault vault = Vaults.with(2, 1, 32, 0);
        Vaults.placesAre(vault, 0, 0, 0, 16, 32);
        Vaults.placesAre(vault, 0, 1, 48, 64, 80);
        Vaults.placesAre(vault, 0, 2, 96, 112, 1);
        Vaults.placesAre(vault, 0, 3, 17, 33, 49);
        Vaults.roomIs(vault, 8, 8, 8, 8, 9, 9, 9, 9);
        Vaults.store(vault, 5, 1, 0);
        Vaults.placesAre(vault, 5, 0, 65, 81, 97);
    }

    private static void takesTheLeastFreeSlot() {
        StripeVault vault = new StripeVault(1, 1);
        for (int object = 0; object < 5; object++) {
            Vaults.store(vault, object, 16, object);
        }
        Vaults.roomIs(vault, 5, 5, 5, 5, 5, 5, 5, 5);
        vault.drop(1);
        vault.drop(3);
        Vaults.store(vault, 3, 32, 0);
        for (int stripe = 0; stripe < 4; stripe++) {
            Vaults.placesAre(vault, 3, stripe, 32 * stripe + 1, 32 * stripe + 17);
            Vaults.placesAre(vault, 3, stripe + 4, 32 * stripe + 3, 32 * stripe + 19);
        }
    }

    private static void placesOnlyOnDisksAlive() {
        StripeVault vault = new StripeVault(2, 1);
        vault.fail(0);
        vault.fail(3);
        Vaults.store(vault, 0, 9, 0);
        Vaults.placesAre(vault, 0, 0, 16, 32, 64);
        Vaults.placesAre(vault, 0, 1, 80, 96, 112);
        vault.renew(3);
        Vaults.store(vault, 1, 1, 0);
        Vaults.placesAre(vault, 1, 0, 48, 17, 33);
    }

    private static void refusesBadNumbers() {
        StripeVault vault = Vaults.with(1, 1, 4, 0);
        Due.refused("store(1), the draft empty", Due.ARGUMENT, () -> vault.store(1));
        vault.put(1, 9);
        int[] numbers = {-1, 6, 0, Integer.MIN_VALUE, Integer.MAX_VALUE};
        for (int number : numbers) {
            Due.refused("store(" + number + ")", Due.ARGUMENT, () -> vault.store(number));
        }
        Due.same("store(5)", vault.store(5), 1);
        Vaults.readsAs(vault, 5, 1, 9);
        Vaults.readsAs(vault, 0, 4, 0);
    }

    private static void changesNothingWhenRefused() {
        StripeVault vault = new StripeVault(1, 1);
        for (int object = 0; object < 5; object++) {
            Vaults.store(vault, object, 32, object);
        }
        vault.put(1, 77);
        Due.refused("store(5) into full disks", Due.STATE, () -> vault.store(5));
        Due.refused("store(4), there and no room", Due.ARGUMENT, () -> vault.store(4));
        Due.refused("store(6), no room", Due.ARGUMENT, () -> vault.store(6));
        Due.same("length(5)", vault.length(5), -1);
        vault.drop(2);
        Due.same("store(2) of the draft that stayed", vault.store(2), 1);
        Vaults.readsAs(vault, 2, 1, 77);
    }

    private static void needsOneDiskForEachShard() {
        StripeVault vault = new StripeVault(4, 3);
        vault.put(1, 5);
        vault.fail(0);
        vault.fail(1);
        Due.refused("store(0), 7 shards on 6 disks", Due.STATE, () -> vault.store(0));
        Vaults.roomIs(vault, -1, -1, 10, 10, 10, 10, 10, 10);
        vault.renew(1);
        Due.same("store(0)", vault.store(0), 1);
        Vaults.roomIs(vault, -1, 9, 9, 9, 9, 9, 9, 9);
    }

    private static void undoesHalfAnObject() {
        StripeVault vault = new StripeVault(1, 1);
        for (int object = 0; object < 4; object++) {
            Vaults.store(vault, object, 32, object);
        }
        Vaults.store(vault, 4, 16, 1);
        Vaults.roomIs(vault, 1, 1, 1, 1, 1, 1, 1, 1);
        Vaults.fillDraft(vault, 17, 50);
        Due.refused("store(5), 5 stripes into 8 slots", Due.STATE, () -> vault.store(5));
        Vaults.roomIs(vault, 1, 1, 1, 1, 1, 1, 1, 1);
        Due.same("length(5)", vault.length(5), -1);
        Due.refused("stored(0, 9, 0)", Due.ELEMENT, () -> vault.stored(0, 9, 0));
        vault.drop(4);
        Due.same("store(5)", vault.store(5), 5);
        Vaults.readsAs(vault, 5, 17, 50);
        Vaults.readsAs(vault, 3, 32, 3);
    }
}
