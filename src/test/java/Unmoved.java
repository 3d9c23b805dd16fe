import java.util.List;
import java.util.function.Consumer;
import java.util.function.Function;
import java.util.function.IntUnaryOperator;
import java.util.function.Supplier;
import java.util.function.ToIntFunction;

/**
 * Holds that a call answers or throws what is due and changes nothing: it is made on one of two equal
 * vaults, and all that can be seen of both is compared. That takes more calls than a vault has, so
 * that each part of the look is made on two new vaults.
 */
final class Unmoved {
    private static final List<Function<StripeVault, String>> PARTS = List.of(
            Unmoved::numbers, Unmoved::slots, Unmoved::places, Unmoved::contents, Unmoved::draft,
            Unmoved::disks);

    private Unmoved() {
    }

    static void refuses(Supplier<StripeVault> scene, String call,
            Class<? extends RuntimeException> due, Consumer<StripeVault> tried) {
        StripeVault vault = scene.get();
        Due.refused(call, due, () -> tried.accept(vault));
        changesNothing(scene, call, tried);
    }

    static void answers(Supplier<StripeVault> scene, String call, int due,
            ToIntFunction<StripeVault> asked) {
        Due.same(call, asked.applyAsInt(scene.get()), due);
        changesNothing(scene, call, asked::applyAsInt);
    }

    private static void changesNothing(Supplier<StripeVault> scene, String call,
            Consumer<StripeVault> tried) {
        for (Function<StripeVault, String> part : PARTS) {
            StripeVault vault = scene.get();
            Due.answer(() -> {
                tried.accept(vault);
                return 0;
            });
            Due.same("a look behind " + call, part.apply(vault), part.apply(scene.get()));
        }
    }

    private static String numbers(StripeVault vault) {
        return "at:" + row(33, vault::at) + "room:" + row(8, vault::room)
                + "length:" + row(6, vault::length) + "check:" + row(6, vault::check);
    }

    private static String slots(StripeVault vault) {
        return "stored:" + row(320, n -> vault.stored(n / 40, n / 4 % 10, n % 4));
    }

    private static String places(StripeVault vault) {
        return "where:" + row(336, n -> vault.where(n / 56, n / 7 % 8, n % 7));
    }

    private static String contents(StripeVault vault) {
        StringBuilder text = new StringBuilder();
        for (int o = 0; o < 6; o++) {
            int object = o;
            text.append("get: ").append(Due.answer(() -> vault.get(object)));
            text.append(" at:").append(row(33, vault::at));
        }
        return text.toString();
    }

    /** The draft is seen only as an object, which needs room. */
    private static String draft(StripeVault vault) {
        return "drop:" + row(6, vault::drop) + "renew:" + row(8, vault::renew)
                + "store, get:" + row(2, n -> n == 0 ? vault.store(0) : vault.get(0))
                + "at:" + row(33, vault::at);
    }

    private static String disks(StripeVault vault) {
        return "renew:" + row(8, vault::renew) + "repair: " + vault.repair() + " " + places(vault);
    }

    private static String row(int count, IntUnaryOperator asked) {
        StringBuilder text = new StringBuilder();
        for (int i = 0; i < count; i++) {
            int index = i;
            text.append(' ').append(Due.answer(() -> asked.applyAsInt(index)));
        }
        return text.append('\n').toString();
    }
}
