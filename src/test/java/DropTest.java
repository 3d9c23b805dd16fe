/** Promise 5: drop. */
public final class DropTest {
    public static void main(String[] args) {
        freesSlots();
        countsOnlySlotsThatWereTaken();
        leavesTheOthers();
        refuses();
        Due.end();
    }

    private static void freesSlots() {
        StripeVault vault = Vaults.with(2, 3, 32, 0);
        Due.same("drop(0)", vault.drop(0), 20);
        Vaults.roomIs(vault, 10, 10, 10, 10, 10, 10, 10, 10);
        Due.same("length(0)", vault.length(0), -1);
        Due.refused("stored(0, 0, 0)", Due.ELEMENT, () -> vault.stored(0, 0, 0));
        Due.refused("where(0, 0, 0)", Due.ELEMENT, () -> vault.where(0, 0, 0));
        Due.refused("get(0)", Due.ELEMENT, () -> vault.get(0));
        Due.refused("drop(0)", Due.ELEMENT, () -> vault.drop(0));
        vault.put(1, 4);
        Due.same("store(0)", vault.store(0), 1);
        Due.same("drop(0)", vault.drop(0), 5);
    }

    private static void countsOnlySlotsThatWereTaken() {
        StripeVault vault = Vaults.with(2, 3, 8, 0);
        vault.fail(1);
        vault.fail(4);
        vault.renew(4);
        Due.same("drop(0), 2 of 5 shards lost", vault.drop(0), 3);
        Vaults.roomIs(vault, 10, -1, 10, 10, 10, 10, 10, 10);
        StripeVault gone = Vaults.with(1, 1, 4, 0);
        gone.fail(0);
        gone.fail(1);
        Due.same("drop(0), all shards lost", gone.drop(0), 0);
        Due.same("length(0)", gone.length(0), -1);
    }

    private static void leavesTheOthers() {
        StripeVault vault = Vaults.with(3, 2, 32, 0);
        Vaults.store(vault, 1, 31, 100);
        Vaults.store(vault, 2, 30, 200);
        vault.put(1, 8);
        vault.get(0);
        Due.same("drop(1)", vault.drop(1), 15);
        Vaults.outputIs(vault, 32, 0);
        Vaults.readsAs(vault, 0, 32, 0);
        Vaults.readsAs(vault, 2, 30, 200);
        vault.store(1);
        Vaults.readsAs(vault, 1, 1, 8);
        Vaults.readsAs(vault, 2, 30, 200);
    }

    private static void refuses() {
        StripeVault vault = Vaults.with(1, 1, 4, 0);
        int[] numbers = {-1, 1, 5, 6, Integer.MIN_VALUE, Integer.MAX_VALUE};
        for (int number : numbers) {
            Due.refused("drop(" + number + ")", Due.ELEMENT, () -> vault.drop(number));
        }
        Vaults.readsAs(vault, 0, 4, 0);
    }
}
