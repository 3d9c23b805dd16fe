/** Promise 1: a new object, and what the terms say there is at first. */
public final class NewObjectTest {
    public static void main(String[] args) {
        int[] given = {Integer.MIN_VALUE, -1, 0, 1, 2, 3, 4, 5, 6, Integer.MAX_VALUE};
        int[] data = {1, 1, 1, 1, 2, 3, 4, 4, 4, 4};
        int[] more = {1, 1, 1, 1, 2, 3, 3, 3, 3, 3};
        for (int i = 0; i < given.length; i++) {
            for (int j = 0; j < given.length; j++) {
                hasShape(new StripeVault(given[i], given[j]), data[i], more[j]);
            }
        }
        isEmptyAtFirst(new StripeVault(2, 2));
        areApart();
        Due.end();
    }

    private static void hasShape(StripeVault vault, int data, int more) {
        Vaults.fillDraft(vault, 32, 0);
        int[] stripes = {8, 4, 3, 2};
        Due.same("store(0)", vault.store(0), stripes[data - 1]);
        Due.same("where of the last shard is a place", vault.where(0, 0, data + more - 1) >= 0, true);
        Due.refused("where of one shard more", Due.INDEX, () -> vault.where(0, 0, data + more));
        // With K data shards, K shards must be enough and K - 1 must not.
        for (int disk = 0; disk < more; disk++) {
            vault.fail(disk);
        }
        Vaults.readsAs(vault, 0, 32, 0);
        vault.fail(more);
        Due.refused("get(0)", Due.STATE, () -> vault.get(0));
    }

    private static void isEmptyAtFirst(StripeVault vault) {
        Vaults.roomIs(vault, 10, 10, 10, 10, 10, 10, 10, 10, -1);
        for (int object = 0; object < 6; object++) {
            Due.same("length(" + object + ")", vault.length(object), -1);
        }
        Due.refused("at(0)", Due.INDEX, () -> vault.at(0));
        Due.refused("store(0)", Due.ARGUMENT, () -> vault.store(0));
        Due.refused("stored(0, 0, 0)", Due.ELEMENT, () -> vault.stored(0, 0, 0));
        Due.same("repair()", vault.repair(), 0);
    }

    private static void areApart() {
        StripeVault one = Vaults.with(1, 1, 4, 1);
        StripeVault other = new StripeVault(1, 1);
        Due.same("length(0) of another vault", other.length(0), -1);
        other.fail(0);
        Due.same("room(0) of the first vault", one.room(0), 9);
    }
}
