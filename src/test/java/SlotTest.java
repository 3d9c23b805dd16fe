/** Promises 12 and 13: harm, stored. */
public final class SlotTest {
    public static void main(String[] args) {
        harmXorsOneByte();
        refusesNoSuchPlace();
        refusesFreeSlots();
        Due.end();
    }

    private static void harmXorsOneByte() {
        StripeVault vault = new StripeVault(1, 1);
        vault.put(4, 0x010203FFL);
        vault.store(0);
        Due.same("harm(0, 0, 0, 2)", vault.harm(0, 0, 0, 2), 3);
        Due.same("harm(0, 0, 3, 255)", vault.harm(0, 0, 3, 255), 0);
        Due.same("harm(0, 0, 1, 256)", vault.harm(0, 0, 1, 256), 2);
        Due.same("harm(0, 0, 1, -1)", vault.harm(0, 0, 1, -1), 253);
        Due.same("harm(0, 0, 2, 0x7FFFFF04)", vault.harm(0, 0, 2, 0x7FFFFF04), 7);
        Due.same("harm(0, 0, 2, 0)", vault.harm(0, 0, 2, 0), 7);
        Due.same("harm(0, 0, 2, MIN)", vault.harm(0, 0, 2, Integer.MIN_VALUE), 7);
        Vaults.slotIs(vault, 0, 3, 253, 7, 0);
        Vaults.slotIs(vault, 16, 1, 2, 3, 255);
        Due.same("harm(1, 0, 3, 1)", vault.harm(1, 0, 3, 1), 254);
        Vaults.slotIs(vault, 16, 1, 2, 3, 254);
    }

    private static void refusesNoSuchPlace() {
        StripeVault vault = Vaults.with(1, 1, 4, 0);
        int[][] places = {
            {-1, 0, 0}, {8, 0, 0}, {0, -1, 0}, {0, 10, 0}, {0, 16, 0}, {0, 0, -1}, {0, 0, 4},
            {1, -16, 0}, {7, 9, 4}, {7, 10, 0}, {Integer.MIN_VALUE, 0, 0}, {Integer.MAX_VALUE, 0, 0},
            {0, Integer.MIN_VALUE, 0}, {0, Integer.MAX_VALUE, 0}, {0, 0, Integer.MIN_VALUE},
            {0, 0, Integer.MAX_VALUE},
        };
        for (int[] p : places) {
            String at = p[0] + ", " + p[1] + ", " + p[2];
            Due.refused("harm(" + at + ", 1)", Due.ARGUMENT, () -> vault.harm(p[0], p[1], p[2], 1));
            Due.refused("stored(" + at + ")", Due.ARGUMENT, () -> vault.stored(p[0], p[1], p[2]));
        }
        Vaults.slotIs(vault, 0, 0, 1, 2, 3);
    }

    private static void refusesFreeSlots() {
        StripeVault vault = Vaults.with(1, 1, 4, 0);
        Due.refused("harm(0, 1, 0, 1)", Due.ELEMENT, () -> vault.harm(0, 1, 0, 1));
        Due.refused("stored(0, 9, 3)", Due.ELEMENT, () -> vault.stored(0, 9, 3));
        Due.refused("stored(7, 0, 0)", Due.ELEMENT, () -> vault.stored(7, 0, 0));
        vault.fail(0);
        Due.refused("harm(0, 0, 0, 1)", Due.ELEMENT, () -> vault.harm(0, 0, 0, 1));
        Due.refused("stored(0, 0, 0)", Due.ELEMENT, () -> vault.stored(0, 0, 0));
        Due.refused("stored(0, 10, 0) of a failed disk", Due.ARGUMENT, () -> vault.stored(0, 10, 0));
        vault.drop(0);
        Due.refused("stored(1, 0, 0)", Due.ELEMENT, () -> vault.stored(1, 0, 0));
    }
}
