import java.util.Random;
import java.util.function.IntSupplier;

/**
 * All promises together: long runs of calls that are drawn by chance, but the same ones each time,
 * on the program and on SlowVault. No vault gets more than 512 calls.
 */
public final class WalkTest {
    private static final int WALKS = 1000;
    private static final int CALLS = 330;
    private static final int LAST_LOOK = 182;

    private final Random chance;
    private final StripeVault vault;
    private final SlowVault model;
    private final String name;
    /** How readily disks fail: walks on which all is soon gone say little of repair. */
    private final int failing;

    private WalkTest(int seed) {
        chance = new Random(seed);
        int data = chance.nextInt(6);
        int more = chance.nextInt(5);
        failing = 1 + chance.nextInt(8);
        vault = new StripeVault(data, more);
        model = new SlowVault(data, more);
        name = "walk " + seed + " (" + data + ", " + more + ")";
    }

    public static void main(String[] args) {
        for (int seed = 0; seed < WALKS; seed++) {
            WalkTest walk = new WalkTest(seed);
            for (int call = 0; call < CALLS; call++) {
                walk.step();
            }
            walk.lookAtAll();
        }
        Due.end();
    }

    private void step() {
        int kind = chance.nextInt(100);
        if (kind < 30) {
            changeDraft();
        } else if (kind < 55) {
            changeObjects();
        } else if (kind < 55 + failing) {
            int d = number(8);
            same("fail(" + d + ")", () -> vault.fail(d), () -> model.fail(d));
        } else if (kind < 67) {
            int d = number(8);
            same("renew(" + d + ")", () -> vault.renew(d), () -> model.renew(d));
        } else if (kind < 72) {
            same("repair()", vault::repair, model::repair);
        } else if (kind < 77) {
            int d = number(8);
            int s = chance.nextInt(4) == 0 ? number(10) : number(2);
            int i = number(4);
            int x = chance.nextInt();
            same("harm(" + d + ", " + s + ", " + i + ", " + x + ")",
                    () -> vault.harm(d, s, i, x), () -> model.harm(d, s, i, x));
        } else {
            look(kind % 7);
        }
    }

    private void changeDraft() {
        int n = chance.nextInt(4) == 0 ? number(9) : 8;
        long codes = chance.nextLong();
        if (chance.nextInt(40) == 0) {
            same("scrap()", () -> { vault.scrap(); return 0; }, () -> { model.scrap(); return 0; });
        } else {
            same("put(" + n + ", " + codes + ")",
                    () -> vault.put(n, codes) ? 1 : 0, () -> model.put(n, codes) ? 1 : 0);
        }
    }

    private void changeObjects() {
        int o = number(6);
        if (chance.nextInt(5) == 0) {
            same("drop(" + o + ")", () -> vault.drop(o), () -> model.drop(o));
        } else {
            same("store(" + o + ")", () -> vault.store(o), () -> model.store(o));
        }
    }

    private void look(int kind) {
        int o = number(6);
        int d = number(8);
        int s = number(10);
        int i = number(4);
        switch (kind) {
            case 0 -> same("get(" + o + ")", () -> vault.get(o), () -> model.get(o));
            case 1 -> same("check(" + o + ")", () -> vault.check(o), () -> model.check(o));
            case 2 -> same("stored(" + d + ", " + s + ", " + i + ")",
                    () -> vault.stored(d, s, i), () -> model.stored(d, s, i));
            case 3 -> same("where(" + o + ", " + i + ", " + d + ")",
                    () -> vault.where(o, i, d), () -> model.where(o, i, d));
            case 4 -> same("at(" + s * i + ")", () -> vault.at(s * i), () -> model.at(s * i));
            case 5 -> same("length(" + o + ")", () -> vault.length(o), () -> model.length(o));
            default -> same("room(" + d + ")", () -> vault.room(d), () -> model.room(d));
        }
    }

    /** A look at all that can be seen, as far as the vault's calls go. */
    private void lookAtAll() {
        int calls = 0;
        for (int o = 0; o < 6; o++) {
            int object = o;
            same("length(" + o + ")", () -> vault.length(object), () -> model.length(object));
            same("check(" + o + ")", () -> vault.check(object), () -> model.check(object));
            same("get(" + o + ")", () -> vault.get(object), () -> model.get(object));
            calls += 3;
        }
        for (int d = 0; d < 8; d++) {
            int disk = d;
            same("room(" + d + ")", () -> vault.room(disk), () -> model.room(disk));
            calls++;
        }
        for (int i = 0; i < 33; i++) {
            int index = i;
            same("at(" + i + ")", () -> vault.at(index), () -> model.at(index));
            calls++;
        }
        for (; calls < LAST_LOOK; calls++) {
            int d = chance.nextInt(8);
            int s = chance.nextInt(10);
            int i = chance.nextInt(4);
            same("stored(" + d + ", " + s + ", " + i + ")",
                    () -> vault.stored(d, s, i), () -> model.stored(d, s, i));
        }
    }

    /** Mostly 0 .. bound - 1, now and then a number beside it. */
    private int number(int bound) {
        return chance.nextInt(20) == 0 ? chance.nextInt(bound + 4) - 2 : chance.nextInt(bound);
    }

    private void same(String call, IntSupplier got, IntSupplier due) {
        Due.same(name + ": " + call, Due.answer(got), Due.answer(due));
    }
}
