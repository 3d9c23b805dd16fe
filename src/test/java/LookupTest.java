/** Promises 14, 15 and 16: where, length, room. */
public final class LookupTest {
    public static void main(String[] args) {
        whereTellsPlaces();
        whereRefuses();
        lengthTellsLengths();
        roomTellsFreeSlots();
        Due.end();
    }

    private static void whereTellsPlaces() {
        StripeVault vault = Vaults.with(3, 2, 13, 0);
        Vaults.placesAre(vault, 0, 0, 0, 16, 32, 48, 64);
        Vaults.placesAre(vault, 0, 1, 80, 96, 112, 1, 17);
        vault.fail(6);
        vault.fail(0);
        Vaults.placesAre(vault, 0, 0, -1, 16, 32, 48, 64);
        Vaults.placesAre(vault, 0, 1, 80, -1, 112, -1, 17);
    }

    private static void whereRefuses() {
        StripeVault vault = Vaults.with(3, 2, 13, 0);
        Vaults.store(vault, 2, 1, 0);
        int[][] bad = {
            {0, 2, 0}, {0, -1, 0}, {0, 0, 5}, {0, 0, -1}, {0, 1, 5}, {2, 1, 0}, {2, 0, 6},
            {0, Integer.MAX_VALUE, 0}, {0, Integer.MIN_VALUE, 0}, {0, 0, Integer.MAX_VALUE},
            {0, 0, Integer.MIN_VALUE},
        };
        for (int[] b : bad) {
            Due.refused("where(" + b[0] + ", " + b[1] + ", " + b[2] + ")", Due.INDEX,
                    () -> vault.where(b[0], b[1], b[2]));
        }
        int[] numbers = {-1, 1, 6, Integer.MAX_VALUE, Integer.MIN_VALUE};
        for (int number : numbers) {
            Due.refused("where(" + number + ", 0, 0)", Due.ELEMENT, () -> vault.where(number, 0, 0));
            Due.refused("where(" + number + ", 9, 9)", Due.ELEMENT, () -> vault.where(number, 9, 9));
        }
    }

    private static void lengthTellsLengths() {
        StripeVault vault = Vaults.with(4, 1, 32, 0);
        Vaults.store(vault, 5, 1, 0);
        int[] numbers = {Integer.MIN_VALUE, -1, 0, 1, 4, 5, 6, Integer.MAX_VALUE};
        int[] due = {-1, -1, 32, -1, -1, 1, -1, -1};
        for (int i = 0; i < numbers.length; i++) {
            Due.same("length(" + numbers[i] + ")", vault.length(numbers[i]), due[i]);
        }
        for (int disk = 0; disk < 8; disk++) {
            vault.fail(disk);
        }
        Due.same("length(0), gone but there", vault.length(0), 32);
    }

    private static void roomTellsFreeSlots() {
        StripeVault vault = Vaults.with(2, 1, 25, 0);
        Vaults.roomIs(vault, 8, 8, 8, 8, 9, 9, 9, 9, -1);
        Due.same("room(-1)", vault.room(-1), -1);
        Due.same("room(MIN)", vault.room(Integer.MIN_VALUE), -1);
        Due.same("room(MAX)", vault.room(Integer.MAX_VALUE), -1);
        vault.fail(3);
        Due.same("room(3)", vault.room(3), -1);
        vault.renew(3);
        Due.same("room(3)", vault.room(3), 10);
        vault.drop(0);
        Vaults.roomIs(vault, 10, 10, 10, 10, 10, 10, 10, 10);
    }
}
