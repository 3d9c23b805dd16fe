/** Promise 17: product, all of it, against Bytes. */
public final class ProductTest {
    public static void main(String[] args) {
        for (int a = 0; a < 256; a++) {
            StripeVault vault = new StripeVault(2, 2);
            for (int b = 0; b < 256; b++) {
                Due.same("product(" + a + ", " + b + ")", vault.product(a, b), Bytes.times(a, b));
            }
            if (a > 0) {
                int inverse = vault.product(a, -1);
                Due.same("product(" + a + ", -1) is a byte", inverse >= 0 && inverse < 256, true);
                Due.same("product(" + a + ", -1) times " + a, Bytes.times(a, inverse), 1);
            }
        }
        refuses(new StripeVault(1, 1));
        Due.end();
    }

    private static void refuses(StripeVault vault) {
        Due.refused("product(0, -1)", Due.ARITHMETIC, () -> vault.product(0, -1));
        int[] bad = {-2, 256, 257, Integer.MIN_VALUE, Integer.MAX_VALUE};
        for (int x : bad) {
            Due.refused("product(" + x + ", 1)", Due.ARGUMENT, () -> vault.product(x, 1));
            Due.refused("product(" + x + ", -1)", Due.ARGUMENT, () -> vault.product(x, -1));
            Due.refused("product(1, " + x + ")", Due.ARGUMENT, () -> vault.product(1, x));
            Due.refused("product(0, " + x + ")", Due.ARGUMENT, () -> vault.product(0, x));
        }
        Due.refused("product(-1, 1)", Due.ARGUMENT, () -> vault.product(-1, 1));
        Due.refused("product(-1, -1)", Due.ARGUMENT, () -> vault.product(-1, -1));
    }
}
