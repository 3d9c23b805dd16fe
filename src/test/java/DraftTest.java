/** Promises 2 and 3: put, scrap. */
public final class DraftTest {
    public static void main(String[] args) {
        takesLowestBitsHighestFirst();
        takesEveryCount();
        refusesOtherCounts();
        holdsThirtyTwoBytes();
        scrapEmpties();
        Due.end();
    }

    private static void takesLowestBitsHighestFirst() {
        StripeVault vault = new StripeVault(4, 1);
        Due.same("put(3, ..)", vault.put(3, 0x1122334455667788L), true);
        Due.same("put(8, ..)", vault.put(8, 0xFFEEDDCCBBAA9980L), true);
        Due.same("put(1, -1)", vault.put(1, -1L), true);
        Due.same("put(2, 256)", vault.put(2, 256L), true);
        vault.store(0);
        int[] due = {0x66, 0x77, 0x88, 0xFF, 0xEE, 0xDD, 0xCC, 0xBB, 0xAA, 0x99, 0x80, 255, 1, 0};
        Due.same("get(0)", vault.get(0), due.length);
        for (int i = 0; i < due.length; i++) {
            Due.same("at(" + i + ")", vault.at(i), due[i]);
        }
    }

    private static void takesEveryCount() {
        for (int n = 1; n <= 8; n++) {
            StripeVault vault = new StripeVault(1, 1);
            Due.same("put(" + n + ", ..)", vault.put(n, 0x0102030405060708L), true);
            vault.store(0);
            Vaults.readsAs(vault, 0, n, 9 - n);
        }
    }

    private static void refusesOtherCounts() {
        StripeVault vault = new StripeVault(1, 1);
        int[] counts = {0, -1, 9, 10, Integer.MIN_VALUE, Integer.MAX_VALUE};
        for (int n : counts) {
            Due.same("put(" + n + ", 5)", vault.put(n, 5), false);
        }
        Due.refused("store(0), the draft still empty", Due.ARGUMENT, () -> vault.store(0));
        vault.put(1, 7);
        for (int n : counts) {
            Due.same("put(" + n + ", 5)", vault.put(n, 5), false);
        }
        vault.store(0);
        Vaults.readsAs(vault, 0, 1, 7);
    }

    private static void holdsThirtyTwoBytes() {
        StripeVault vault = new StripeVault(4, 1);
        Vaults.fillDraft(vault, 30, 0);
        Due.same("put(3, 1) behind 30", vault.put(3, 1), false);
        Due.same("put(8, 1) behind 30", vault.put(8, 1), false);
        Due.same("put(2, 0x1E1F) behind 30", vault.put(2, 0x1E1F), true);
        Due.same("put(1, 1) behind 32", vault.put(1, 1), false);
        Due.same("store(0)", vault.store(0), 2);
        Vaults.readsAs(vault, 0, 32, 0);
        Due.same("put(1, 1) into the new draft", vault.put(1, 1), true);
    }

    private static void scrapEmpties() {
        StripeVault vault = new StripeVault(1, 1);
        vault.scrap();
        vault.put(8, -1);
        vault.scrap();
        Due.refused("store(0) of a scrapped draft", Due.ARGUMENT, () -> vault.store(0));
        vault.put(1, 3);
        vault.store(0);
        vault.put(2, 1);
        vault.scrap();
        Vaults.readsAs(vault, 0, 1, 3);
        Vaults.fillDraft(vault, 32, 0);
        Due.same("put(1, 1) into a full draft", vault.put(1, 1), false);
        vault.scrap();
        Due.same("put(1, 1) into a scrapped draft", vault.put(1, 1), true);
    }
}
