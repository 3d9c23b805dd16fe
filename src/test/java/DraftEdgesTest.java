/** The boundaries in promises 1 to 3, a test for each. */
public final class DraftEdgesTest {
    public static void main(String[] args) {
        dataAreTakenAsTheNearest();
        moreAreTakenAsTheNearest();
        putTakesOneToEight();
        putTakesUpToThirtyTwo();
        putTakesTheLowestBits();
        putTakesTheHighestFirst();
        scrapLeavesAnEmptyDraft();
        scrapLeavesTheRest();
        Due.end();
    }

    /** Promise 1: "K is data, ... taken as the nearest of 1 .. 4". */
    private static void dataAreTakenAsTheNearest() {
        int[] given = {Integer.MIN_VALUE, -1, 0, 1, 2, 3, 4, 5, 6, Integer.MAX_VALUE};
        int[] taken = {1, 1, 1, 1, 2, 3, 4, 4, 4, 4};
        for (int i = 0; i < given.length; i++) {
            StripeVault vault = new StripeVault(given[i], 2);
            Vaults.fillDraft(vault, 4 * taken[i] + 1, 0);
            Due.same("store(0), data = " + given[i], vault.store(0), 2);
            vault.drop(0);
            Vaults.fillDraft(vault, 4 * taken[i], 0);
            Due.same("store(0), data = " + given[i], vault.store(0), 1);
            Due.same("drop(0), data = " + given[i], vault.drop(0), taken[i] + 2);
        }
    }

    /** Promise 1: "M is more, taken as the nearest ... of 1 .. 3". */
    private static void moreAreTakenAsTheNearest() {
        int[] given = {Integer.MIN_VALUE, -1, 0, 1, 2, 3, 4, 5, Integer.MAX_VALUE};
        int[] taken = {1, 1, 1, 1, 2, 3, 3, 3, 3};
        for (int i = 0; i < given.length; i++) {
            StripeVault vault = Vaults.with(2, given[i], 8, 0);
            for (int disk = 0; disk < taken[i]; disk++) {
                vault.fail(disk);
            }
            Vaults.readsAs(vault, 0, 8, 0);
            vault.fail(taken[i]);
            Due.refused("get(0), more = " + given[i], Due.STATE, () -> vault.get(0));
            Due.same("drop(0), more = " + given[i], vault.drop(0), 1);
        }
    }

    /** Promise 2: "false when n is not 1 .. 8": what a refusal leaves is in RefusalTest too. */
    private static void putTakesOneToEight() {
        StripeVault vault = new StripeVault(1, 1);
        Due.same("put(0, 9)", vault.put(0, 9), false);
        Due.same("put(1, 1)", vault.put(1, 1), true);
        Due.same("put(9, 9)", vault.put(9, 9), false);
        Due.same("put(8, ..)", vault.put(8, 0x0203040506070809L), true);
        Due.same("put(-1, 9)", vault.put(-1, 9), false);
        Due.same("put(-8, 9)", vault.put(-8, 9), false);
        Due.same("put(MIN, 9)", vault.put(Integer.MIN_VALUE, 9), false);
        // Behind 9 bytes, this many more would be a number below 0 again.
        Due.same("put(MAX, 9)", vault.put(Integer.MAX_VALUE, 9), false);
        Due.same("put(MAX - 8, 9)", vault.put(Integer.MAX_VALUE - 8, 9), false);
        vault.store(0);
        Vaults.readsAs(vault, 0, 9, 1);
    }

    /** Promise 2: "false when ... it would have more than 32": for every draft and every n. */
    private static void putTakesUpToThirtyTwo() {
        for (int length = 0; length <= 32; length++) {
            for (int n = 1; n <= 8; n++) {
                StripeVault vault = new StripeVault(4, 1);
                Vaults.fillDraft(vault, length, 1);
                boolean fits = length + n <= 32;
                Due.same("put(" + n + ", -1) behind " + length, vault.put(n, -1), fits);
                vault.store(0);
                Due.same("length(0)", vault.length(0), fits ? length + n : length);
                vault.get(0);
                for (int i = 0; i < length; i++) {
                    Due.same("at(" + i + ")", vault.at(i), 1 + i);
                }
                if (fits) {
                    Due.same("at of the first byte put", vault.at(length), 255);
                    Due.same("at of the last byte put", vault.at(length + n - 1), 255);
                }
            }
        }
    }

    /** Promise 2: "the lowest 8 * n bits of codes": all the others are 1, and do not count. */
    private static void putTakesTheLowestBits() {
        for (int n = 1; n <= 8; n++) {
            StripeVault vault = new StripeVault(2, 1);
            long others = n == 8 ? 0 : -1L << 8 * n;
            vault.put(n, others);
            vault.put(n, ~others);
            vault.store(0);
            Due.same("get(0)", vault.get(0), 2 * n);
            for (int i = 0; i < 2 * n; i++) {
                Due.same("at(" + i + ") of " + 2 * n, vault.at(i), i < n ? 0 : 255);
            }
        }
    }

    /** Promise 2: "the highest first", the sign's bit among them. */
    private static void putTakesTheHighestFirst() {
        StripeVault vault = new StripeVault(4, 1);
        vault.put(8, Long.MIN_VALUE);
        vault.put(8, 1);
        vault.put(8, 0xFFFEFDFCFBFAF9F8L);
        vault.store(0);
        vault.get(0);
        for (int i = 0; i < 24; i++) {
            int due = i == 0 ? 128 : i == 15 ? 1 : i < 16 ? 0 : 255 - (i - 16);
            Due.same("at(" + i + ")", vault.at(i), due);
        }
    }

    /** Promise 3: "The draft becomes empty": an empty one, one of 1 byte, and a full one. */
    private static void scrapLeavesAnEmptyDraft() {
        for (int length : new int[] {0, 1, 32}) {
            StripeVault vault = new StripeVault(1, 1);
            Vaults.fillDraft(vault, length, 0);
            vault.scrap();
            Due.refused("store(0), scrapped", Due.ARGUMENT, () -> vault.store(0));
            Vaults.fillDraft(vault, 32, 5);
            Due.same("put(1, 1) behind 32", vault.put(1, 1), false);
            Due.same("store(0)", vault.store(0), 8);
            Vaults.readsAs(vault, 0, 32, 5);
        }
    }

    /** Promise 3: nothing but the draft changes, and with an empty one nothing at all. */
    private static void scrapLeavesTheRest() {
        Unmoved.answers(DraftEdgesTest::tornWithoutDraft, "scrap()", 0, v -> {
            v.scrap();
            return 0;
        });
        StripeVault vault = Scenes.torn();
        vault.scrap();
        Vaults.outputIs(vault, 8, 60);
        Vaults.roomIs(vault, 8, 8, -1, 10, 9, 9, -1, 9);
        Due.same("length(1)", vault.length(1), 12);
        Due.same("length(4)", vault.length(4), 8);
    }

    private static StripeVault tornWithoutDraft() {
        StripeVault vault = Scenes.torn();
        vault.scrap();
        return vault;
    }
}
