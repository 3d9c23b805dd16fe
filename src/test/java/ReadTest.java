/** Promises 6 and 7: get, at; and what the terms say of reading. */
public final class ReadTest {
    public static void main(String[] args) {
        readsWithAnyShardsLost();
        takesTheLeastShards();
        failsWhenGone();
        keepsTheOutput();
        refuses();
        Due.end();
    }

    /** Stripe 0 of a new vault has shard s on disk s, so disks can be chosen for every set of shards. */
    private static void readsWithAnyShardsLost() {
        for (int data = 1; data <= 4; data++) {
            for (int more = 1; more <= 3; more++) {
                for (int lost = 0; lost < 1 << (data + more); lost++) {
                    StripeVault vault = Vaults.with(data, more, 4 * data, 70 * data + lost);
                    failDisks(vault, lost);
                    if (Integer.bitCount(lost) <= more) {
                        Vaults.readsAs(vault, 0, 4 * data, 70 * data + lost);
                    } else {
                        Due.refused("get(0)", Due.STATE, () -> vault.get(0));
                    }
                }
            }
        }
    }

    private static void failDisks(StripeVault vault, int set) {
        for (int disk = 0; disk < 8; disk++) {
            if ((set >> disk & 1) == 1) {
                vault.fail(disk);
            }
        }
    }

    private static void takesTheLeastShards() {
        StripeVault vault = new StripeVault(2, 2);
        vault.put(8, 0x0102030405060708L);
        vault.store(0);
        vault.harm(2, 0, 0, 255);
        vault.harm(3, 0, 0, 255);
        Vaults.readsAs(vault, 0, 8, 1);
        vault.harm(1, 0, 3, 1);
        Due.same("get(0)", vault.get(0), 8);
        Due.same("at(7)", vault.at(7), 9);
        vault.harm(1, 0, 3, 1);
        vault.harm(2, 0, 0, 255);
        vault.fail(0);
        Vaults.readsAs(vault, 0, 8, 1);
        vault.harm(2, 0, 1, 1);
        Due.same("get(0)", vault.get(0), 8);
        // Shard 2 is 1/2 * shard 0 + 1/3 * shard 1: a 1 more there is a 2 more in shard 0.
        Due.same("at(1)", vault.at(1), 2 ^ 2);
        Due.same("at(5)", vault.at(5), 6);
    }

    private static void failsWhenGone() {
        StripeVault vault = Vaults.with(1, 1, 8, 1);
        Vaults.store(vault, 1, 4, 20);
        vault.get(1);
        vault.fail(2);
        Vaults.readsAs(vault, 0, 8, 1);
        vault.get(1);
        vault.fail(3);
        Due.refused("get(0), stripe 1 gone", Due.STATE, () -> vault.get(0));
        Vaults.outputIs(vault, 4, 20);
        Due.same("length(0)", vault.length(0), 8);
        vault.renew(2);
        vault.renew(3);
        Due.refused("get(0), new disks hold nothing", Due.STATE, () -> vault.get(0));
        Vaults.readsAs(vault, 1, 4, 20);
    }

    private static void keepsTheOutput() {
        StripeVault vault = Vaults.with(4, 1, 32, 5);
        Vaults.store(vault, 1, 3, 90);
        Vaults.readsAs(vault, 0, 32, 5);
        vault.harm(0, 0, 0, 255);
        vault.drop(0);
        vault.put(8, -1);
        vault.store(0);
        Vaults.outputIs(vault, 32, 5);
        Vaults.readsAs(vault, 1, 3, 90);
        Due.refused("at(5), behind the shorter output", Due.INDEX, () -> vault.at(5));
    }

    private static void refuses() {
        StripeVault vault = new StripeVault(1, 1);
        Due.refused("at(0) before any get", Due.INDEX, () -> vault.at(0));
        Vaults.store(vault, 3, 6, 1);
        Due.refused("at(0) before any get", Due.INDEX, () -> vault.at(0));
        int[] numbers = {-1, 0, 6, Integer.MIN_VALUE, Integer.MAX_VALUE};
        for (int number : numbers) {
            Due.refused("get(" + number + ")", Due.ELEMENT, () -> vault.get(number));
        }
        vault.get(3);
        int[] bytes = {-1, 6, 7, 32, Integer.MIN_VALUE, Integer.MAX_VALUE};
        for (int i : bytes) {
            Due.refused("at(" + i + ")", Due.INDEX, () -> vault.at(i));
        }
        Due.refused("get(0)", Due.ELEMENT, () -> vault.get(0));
        Vaults.outputIs(vault, 6, 1);
    }
}
