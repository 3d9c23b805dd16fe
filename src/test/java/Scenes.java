/** The states in which calls that must change nothing are tried. */
final class Scenes {
    private Scenes() {
    }

    static StripeVault fresh() {
        return new StripeVault(2, 2);
    }

    /**
     * Object 1 has 12 bytes, and its stripe 1 is gone; object 4 has 8, shard 0 of its stripe 0 is lost
     * and shard 1 harmed. Disks 2 and 6 are not alive, disk 3 is new. Object 4 is the output, as it was
     * before; the draft has 5 bytes.
     */
    static StripeVault torn() {
        StripeVault vault = new StripeVault(1, 1);
        Vaults.store(vault, 1, 12, 10);
        Vaults.store(vault, 4, 8, 60);
        vault.get(4);
        vault.harm(7, 0, 2, 5);
        vault.fail(2);
        vault.fail(3);
        vault.fail(6);
        vault.renew(3);
        Vaults.fillDraft(vault, 5, 90);
        return vault;
    }

    /** Objects 0 .. 4 have every slot; object 2 is the output, the draft has 3 bytes. */
    static StripeVault full() {
        StripeVault vault = new StripeVault(1, 1);
        for (int object = 0; object < 5; object++) {
            Vaults.store(vault, object, 32, 40 * object);
        }
        vault.get(2);
        Vaults.fillDraft(vault, 3, 200);
        return vault;
    }

    /** Objects 0 .. 4 leave 10 slots; the draft has 17 bytes, which need 14. */
    static StripeVault nearlyFull() {
        StripeVault vault = new StripeVault(4, 3);
        for (int object = 0; object < 5; object++) {
            Vaults.store(vault, object, 32, 40 * object);
        }
        vault.get(0);
        Vaults.fillDraft(vault, 17, 200);
        return vault;
    }

    /** No disk is alive; objects 0 and 5 are gone, object 5 is the output, the draft has 32 bytes. */
    static StripeVault dead() {
        StripeVault vault = new StripeVault(2, 1);
        Vaults.store(vault, 0, 1, 7);
        Vaults.store(vault, 5, 32, 100);
        vault.get(5);
        for (int disk = 0; disk < 8; disk++) {
            vault.fail(disk);
        }
        Vaults.fillDraft(vault, 32, 50);
        return vault;
    }
}
