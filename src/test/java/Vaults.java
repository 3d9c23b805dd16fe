/** Vaults in states that several tests begin with. */
final class Vaults {
    private Vaults() {
    }

    /** Byte i behind the draft becomes first + i, its lowest eight bits; in few calls, as a vault has but 512. */
    static void fillDraft(StripeVault vault, int length, int first) {
        for (int from = 0; from < length; from += 8) {
            int n = Math.min(8, length - from);
            long codes = 0;
            for (int i = from; i < from + n; i++) {
                codes = codes << 8 | (first + i) & 255;
            }
            Due.same("put of bytes " + from + " ..", vault.put(n, codes), true);
        }
    }

    static void store(StripeVault vault, int object, int length, int first) {
        fillDraft(vault, length, first);
        vault.store(object);
    }

    static StripeVault with(int data, int more, int length, int first) {
        StripeVault vault = new StripeVault(data, more);
        store(vault, 0, length, first);
        return vault;
    }

    static void outputIs(StripeVault vault, int length, int first) {
        for (int i = 0; i < length; i++) {
            Due.same("at(" + i + ")", vault.at(i), (first + i) & 255);
        }
        Due.refused("at(" + length + ")", Due.INDEX, () -> vault.at(length));
    }

    static void readsAs(StripeVault vault, int object, int length, int first) {
        Due.same("get(" + object + ")", vault.get(object), length);
        outputIs(vault, length, first);
    }

    static void slotIs(StripeVault vault, int place, int... bytes) {
        for (int i = 0; i < bytes.length; i++) {
            Due.same("stored(" + place / 16 + ", " + place % 16 + ", " + i + ")",
                    vault.stored(place / 16, place % 16, i), bytes[i]);
        }
    }

    static void placesAre(StripeVault vault, int object, int stripe, int... places) {
        for (int shard = 0; shard < places.length; shard++) {
            Due.same("where(" + object + ", " + stripe + ", " + shard + ")",
                    vault.where(object, stripe, shard), places[shard]);
        }
    }

    static void roomIs(StripeVault vault, int... free) {
        for (int disk = 0; disk < free.length; disk++) {
            Due.same("room(" + disk + ")", vault.room(disk), free[disk]);
        }
    }
}
