/** Promises 8 and 9: fail, renew. */
public final class DiskTest {
    public static void main(String[] args) {
        failLosesShards();
        renewMakesEmpty();
        countsAlive();
        refuses();
        Due.end();
    }

    private static void failLosesShards() {
        StripeVault vault = Vaults.with(2, 1, 32, 0);
        Vaults.store(vault, 1, 8, 50);
        Due.same("fail(0)", vault.fail(0), 2);
        Due.same("room(0)", vault.room(0), -1);
        Vaults.placesAre(vault, 0, 0, -1, 16, 32);
        Vaults.placesAre(vault, 0, 1, 48, 64, 80);
        Vaults.placesAre(vault, 0, 2, 96, 112, -1);
        Due.refused("stored(0, 0, 0)", Due.ELEMENT, () -> vault.stored(0, 0, 0));
        Due.refused("harm(0, 0, 0, 1)", Due.ELEMENT, () -> vault.harm(0, 0, 0, 1));
        Due.same("fail(4)", vault.fail(4), 2);
        Vaults.placesAre(vault, 1, 0, -1, 81, 97);
        StripeVault empty = new StripeVault(1, 1);
        Due.same("fail(7) of an empty disk", empty.fail(7), 0);
    }

    private static void renewMakesEmpty() {
        StripeVault vault = Vaults.with(2, 1, 8, 0);
        vault.fail(1);
        Due.same("renew(1)", vault.renew(1), 8);
        Due.same("room(1)", vault.room(1), 10);
        Vaults.placesAre(vault, 0, 0, 0, -1, 32);
        Due.refused("stored(1, 0, 0)", Due.ELEMENT, () -> vault.stored(1, 0, 0));
        Due.same("fail(1)", vault.fail(1), 0);
        Due.same("renew(1)", vault.renew(1), 8);
        Vaults.store(vault, 1, 8, 0);
        Vaults.placesAre(vault, 1, 0, 16, 48, 64);
    }

    private static void countsAlive() {
        StripeVault vault = new StripeVault(1, 1);
        for (int disk = 0; disk < 8; disk++) {
            Due.same("fail(" + disk + ")", vault.fail(disk), 0);
        }
        for (int disk = 0; disk < 8; disk++) {
            Due.same("renew(" + (7 - disk) + ")", vault.renew(7 - disk), disk + 1);
        }
    }

    private static void refuses() {
        StripeVault vault = Vaults.with(1, 1, 4, 0);
        int[] numbers = {-1, 8, 9, Integer.MIN_VALUE, Integer.MAX_VALUE};
        for (int number : numbers) {
            Due.refused("fail(" + number + ")", Due.ARGUMENT, () -> vault.fail(number));
            Due.refused("renew(" + number + ")", Due.ARGUMENT, () -> vault.renew(number));
        }
        Due.refused("renew(0)", Due.STATE, () -> vault.renew(0));
        Vaults.placesAre(vault, 0, 0, 0, 16);
        vault.fail(0);
        Due.refused("fail(0)", Due.STATE, () -> vault.fail(0));
        Due.same("room(0)", vault.room(0), -1);
        Due.same("renew(0)", vault.renew(0), 8);
        Due.refused("renew(0)", Due.STATE, () -> vault.renew(0));
    }
}
