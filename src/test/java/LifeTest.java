/**
 * 'What it is': objects are kept while disks fail, and a vault answers as it should in each of the 512
 * calls that it is used for, the last one among them.
 */
public final class LifeTest {
    private static final int CALLS = 512;

    public static void main(String[] args) {
        for (int data = 1; data <= 4; data++) {
            for (int more = 1; more <= 3; more++) {
                objectsOutliveEveryDisk(data, more);
            }
        }
        draftsComeAndGo();
        objectsComeAndGo();
        disksComeAndGo();
        bytesAreHarmedAndMended();
        objectsAreReadAgainAndAgain();
        refusalsDoNotWearOut();
        vaultsAreApart();
        Due.end();
    }

    /** "What is lost is worked out from what is left, and put on other disks again." */
    private static void objectsOutliveEveryDisk(int data, int more) {
        StripeVault vault = new StripeVault(data, more);
        Vaults.store(vault, 0, 32, 3);
        Vaults.store(vault, 5, 13, 200);
        int calls = 8;
        // The last 61 calls look at what is left.
        for (int round = 0; calls + 3 <= CALLS - 61; round++) {
            int disk = round * 3 % 8;
            int lost = vault.fail(disk);
            // 7 disks are alive: enough for a stripe of the most shards, which is 7.
            Due.same("repair() in round " + round, vault.repair(), lost);
            vault.renew(disk);
            calls += 3;
        }
        Due.same("check(0)", vault.check(0), 0);
        Due.same("check(5)", vault.check(5), 0);
        Vaults.readsAs(vault, 0, 32, 3);
        Vaults.readsAs(vault, 5, 13, 200);
        Due.same("drop(0)", vault.drop(0), (31 + 4 * data) / (4 * data) * (data + more));
        Due.same("drop(5)", vault.drop(5), (12 + 4 * data) / (4 * data) * (data + more));
        Vaults.roomIs(vault, 10, 10, 10, 10, 10, 10, 10, 10);
    }

    private static void draftsComeAndGo() {
        StripeVault vault = new StripeVault(2, 1);
        for (int call = 0; call < CALLS - 4; call += 2) {
            Due.same("put", vault.put(8, -1 - call), true);
            vault.scrap();
        }
        Due.same("put", vault.put(2, 0x0506), true);
        Due.same("store(0)", vault.store(0), 1);
        Due.same("get(0)", vault.get(0), 2);
        Due.same("at(1) in call 512", vault.at(1), 6);
    }

    private static void objectsComeAndGo() {
        StripeVault vault = new StripeVault(4, 3);
        for (int call = 0; call < CALLS - 2; call += 3) {
            int object = call % 6;
            Due.same("put", vault.put(1 + call % 8, call), true);
            Due.same("store", vault.store(object), 1);
            Due.same("drop", vault.drop(object), 7);
        }
        Due.same("room(0) in call 511", vault.room(0), 10);
        Due.same("length(0) in call 512", vault.length(0), -1);
    }

    private static void disksComeAndGo() {
        StripeVault vault = new StripeVault(1, 1);
        for (int call = 0; call < CALLS; call += 2) {
            Due.same("fail", vault.fail(call / 2 % 8), 0);
            Due.same("renew", vault.renew(call / 2 % 8), 8);
        }
    }

    private static void bytesAreHarmedAndMended() {
        StripeVault vault = new StripeVault(1, 1);
        vault.put(4, 0);
        vault.store(0);
        int due = 0;
        for (int call = 2; call < CALLS - 1; call++) {
            due ^= call & 255;
            Due.same("harm in call " + call, vault.harm(1, 0, 2, call), due);
        }
        Due.same("stored in call 512", vault.stored(1, 0, 2), due);
    }

    private static void objectsAreReadAgainAndAgain() {
        StripeVault vault = Vaults.with(3, 2, 8, 40);
        vault.fail(0);
        for (int call = 3; call + 2 <= CALLS; call += 2) {
            Due.same("get(0)", vault.get(0), 8);
            Due.same("at", vault.at(call % 8), 40 + call % 8);
        }
    }

    private static void refusalsDoNotWearOut() {
        StripeVault vault = Scenes.full();
        // The scene takes 27 calls: 5 objects of 4 puts and a store, a get and a put.
        for (int call = 27; call < CALLS - 1; call++) {
            Due.refused("store(5) in call " + (call + 1), Due.STATE, () -> vault.store(5));
        }
        Due.same("room(7) in call 512", vault.room(7), 0);
    }

    /** Calls on one vault do not show in another one, whichever was made first. */
    private static void vaultsAreApart() {
        StripeVault first = Vaults.with(1, 1, 4, 1);
        StripeVault second = Vaults.with(4, 3, 32, 90);
        first.get(0);
        second.get(0);
        second.fail(0);
        second.harm(1, 0, 0, 255);
        second.put(1, 9);
        Vaults.outputIs(first, 4, 1);
        Vaults.roomIs(first, 9, 9, 10, 10, 10, 10, 10, 10);
        Vaults.readsAs(first, 0, 4, 1);
        Due.refused("store(1), a draft in the other vault", Due.ARGUMENT, () -> first.store(1));
        Vaults.outputIs(second, 32, 90);
        first.drop(0);
        Due.same("length(0) of the second vault", second.length(0), 32);
        first.put(1, 5);
        second.scrap();
        second.put(1, 6);
        first.store(2);
        second.store(2);
        Vaults.readsAs(first, 2, 1, 5);
        Vaults.readsAs(second, 2, 1, 6);
        Due.same("drop(2) of the first vault", first.drop(2), 2);
        Due.same("drop(2) of the second vault", second.drop(2), 7);
    }
}
