/** Promise 11: check. */
public final class CheckTest {
    public static void main(String[] args) {
        countsStripesNotShards();
        seesEveryByteOfEveryShard();
        seesNothingWithoutSpareShards();
        leavesGoneStripesOut();
        refuses();
        Due.end();
    }

    private static void countsStripesNotShards() {
        StripeVault vault = Vaults.with(2, 2, 24, 1);
        Due.same("check(0)", vault.check(0), 0);
        vault.harm(0, 0, 0, 1);
        vault.harm(1, 0, 0, 1);
        vault.harm(3, 0, 2, 9);
        Due.same("check(0), 3 shards of stripe 0", vault.check(0), 1);
        vault.harm(7, 0, 1, 1);
        Due.same("check(0), stripe 1 too", vault.check(0), 2);
        vault.harm(0, 1, 3, 16);
        Due.same("check(0), stripe 2 too", vault.check(0), 3);
        vault.harm(7, 0, 1, 1);
        Due.same("check(0), stripe 1 mended", vault.check(0), 2);
        Vaults.store(vault, 1, 8, 1);
        Due.same("check(1)", vault.check(1), 0);
    }

    private static void seesEveryByteOfEveryShard() {
        StripeVault vault = Vaults.with(4, 3, 13, 1);
        for (int disk = 0; disk < 7; disk++) {
            for (int i = 0; i < 4; i++) {
                vault.harm(disk, 0, i, 128);
                Due.same("check(0), byte " + i + " of shard " + disk, vault.check(0), 1);
                vault.harm(disk, 0, i, 128);
            }
        }
        Due.same("check(0), all mended", vault.check(0), 0);
    }

    /** K shards always fit some data, so only a shard more can tell. */
    private static void seesNothingWithoutSpareShards() {
        StripeVault vault = Vaults.with(2, 2, 8, 1);
        vault.fail(0);
        vault.harm(3, 0, 0, 1);
        Due.same("check(0), 3 shards of which K = 2 are taken", vault.check(0), 1);
        vault.fail(2);
        Due.same("check(0), K shards left", vault.check(0), 0);
    }

    private static void leavesGoneStripesOut() {
        StripeVault vault = Vaults.with(1, 2, 8, 1);
        vault.harm(0, 0, 0, 1);
        vault.harm(3, 0, 0, 1);
        Due.same("check(0)", vault.check(0), 2);
        vault.fail(0);
        vault.fail(1);
        vault.fail(2);
        Due.same("check(0), stripe 0 gone", vault.check(0), 1);
        vault.fail(4);
        vault.fail(5);
        Due.same("check(0), one shard of stripe 1 left", vault.check(0), 0);
        vault.fail(3);
        Due.same("check(0), all gone", vault.check(0), 0);
    }

    private static void refuses() {
        StripeVault vault = Vaults.with(1, 1, 8, 1);
        int[] numbers = {-1, 1, 6, Integer.MIN_VALUE, Integer.MAX_VALUE};
        for (int number : numbers) {
            Due.refused("check(" + number + ")", Due.ELEMENT, () -> vault.check(number));
        }
    }
}
