import java.util.List;
import java.util.function.Consumer;
import java.util.function.Supplier;
import java.util.function.ToIntFunction;

/**
 * Terms: "A call that throws changes nothing. Where several refusals hold, the first one named is
 * thrown." Each exception, false and NONE of the document, in every state of Scenes where it is due.
 */
public final class RefusalTest {
    private final Supplier<StripeVault> scene;
    private final String name;

    private RefusalTest(String name, Supplier<StripeVault> scene) {
        this.name = name;
        this.scene = scene;
    }

    public static void main(String[] args) {
        RefusalTest fresh = new RefusalTest("fresh", Scenes::fresh);
        RefusalTest torn = new RefusalTest("torn", Scenes::torn);
        RefusalTest full = new RefusalTest("full", Scenes::full);
        RefusalTest nearlyFull = new RefusalTest("nearly full", Scenes::nearlyFull);
        RefusalTest dead = new RefusalTest("dead", Scenes::dead);
        for (RefusalTest test : List.of(fresh, torn, full, nearlyFull, dead)) {
            test.refusesNumbersThatAreNone();
            test.refusesPlacesThatAreNone();
            test.refusesBytesThatAreNone();
            test.answersFalseOrNone();
        }
        fresh.refusesWhereNothingIs();
        torn.refusesByState();
        torn.refusesFreeSlots();
        torn.asksWithoutChange();
        full.refusesWithoutRoom();
        nearlyFull.refusesWithoutRoomForAll();
        dead.refusesWithoutDisks();
        dead.throwsTheFirstNamed();
        torn.throwsTheFirstNamed();
        Due.end();
    }

    private void refuses(String call, Class<? extends RuntimeException> due, Consumer<StripeVault> tried) {
        Unmoved.refuses(scene, name + ": " + call, due, tried);
    }

    private void answers(String call, int due, ToIntFunction<StripeVault> asked) {
        Unmoved.answers(scene, name + ": " + call, due, asked);
    }

    private void refusesNumbersThatAreNone() {
        for (int o : new int[] {-1, 6, Integer.MIN_VALUE, Integer.MAX_VALUE}) {
            refuses("store(" + o + ")", Due.ARGUMENT, v -> v.store(o));
            refuses("drop(" + o + ")", Due.ELEMENT, v -> v.drop(o));
            refuses("get(" + o + ")", Due.ELEMENT, v -> v.get(o));
            refuses("check(" + o + ")", Due.ELEMENT, v -> v.check(o));
            refuses("where(" + o + ", 0, 0)", Due.ELEMENT, v -> v.where(o, 0, 0));
        }
        for (int d : new int[] {-1, 8, Integer.MIN_VALUE, Integer.MAX_VALUE}) {
            refuses("fail(" + d + ")", Due.ARGUMENT, v -> v.fail(d));
            refuses("renew(" + d + ")", Due.ARGUMENT, v -> v.renew(d));
        }
        for (int i : new int[] {-1, 32, Integer.MIN_VALUE, Integer.MAX_VALUE}) {
            refuses("at(" + i + ")", Due.INDEX, v -> v.at(i));
        }
    }

    private void refusesPlacesThatAreNone() {
        int[][] places = {
            {-1, 0, 0}, {8, 0, 0}, {0, -1, 0}, {0, 10, 0}, {0, 0, -1}, {0, 0, 4},
            {-1, 9, 3}, {8, 9, 3}, {7, -1, 3}, {7, 10, 3}, {7, 9, -1}, {7, 9, 4},
            {Integer.MIN_VALUE, 0, 0}, {0, Integer.MIN_VALUE, 0}, {0, 0, Integer.MIN_VALUE},
            {Integer.MAX_VALUE, 0, 0}, {0, Integer.MAX_VALUE, 0}, {0, 0, Integer.MAX_VALUE},
        };
        for (int[] p : places) {
            String at = p[0] + ", " + p[1] + ", " + p[2];
            refuses("harm(" + at + ", 1)", Due.ARGUMENT, v -> v.harm(p[0], p[1], p[2], 1));
            refuses("stored(" + at + ")", Due.ARGUMENT, v -> v.stored(p[0], p[1], p[2]));
        }
    }

    private void refusesBytesThatAreNone() {
        int[][] pairs = {{-1, 0}, {256, 0}, {-1, -1}, {256, -1}, {0, -2}, {0, 256}, {255, -2}, {255, 256}};
        for (int[] p : pairs) {
            refuses("product(" + p[0] + ", " + p[1] + ")", Due.ARGUMENT, v -> v.product(p[0], p[1]));
        }
        refuses("product(0, -1)", Due.ARITHMETIC, v -> v.product(0, -1));
    }

    private void answersFalseOrNone() {
        for (int n : new int[] {0, 9, -1, Integer.MIN_VALUE, Integer.MAX_VALUE}) {
            answers("put(" + n + ", -1)", 0, v -> v.put(n, -1) ? 1 : 0);
        }
        for (int n : new int[] {-1, 6, Integer.MIN_VALUE, Integer.MAX_VALUE}) {
            answers("length(" + n + ")", -1, v -> v.length(n));
        }
        for (int n : new int[] {-1, 8, Integer.MIN_VALUE, Integer.MAX_VALUE}) {
            answers("room(" + n + ")", -1, v -> v.room(n));
        }
    }

    private void refusesWhereNothingIs() {
        for (int o = 0; o < 6; o++) {
            int object = o;
            refuses("store(" + o + "), the draft empty", Due.ARGUMENT, v -> v.store(object));
            refuses("drop(" + o + ")", Due.ELEMENT, v -> v.drop(object));
            refuses("get(" + o + ")", Due.ELEMENT, v -> v.get(object));
            refuses("check(" + o + ")", Due.ELEMENT, v -> v.check(object));
            refuses("where(" + o + ", 0, 0)", Due.ELEMENT, v -> v.where(object, 0, 0));
            answers("length(" + o + ")", -1, v -> v.length(object));
        }
        for (int d = 0; d < 8; d++) {
            int disk = d;
            refuses("renew(" + d + ")", Due.STATE, v -> v.renew(disk));
            refuses("harm(" + d + ", 0, 0, 1)", Due.ELEMENT, v -> v.harm(disk, 0, 0, 1));
            refuses("stored(" + d + ", 9, 3)", Due.ELEMENT, v -> v.stored(disk, 9, 3));
        }
        refuses("at(0)", Due.INDEX, v -> v.at(0));
        answers("repair()", 0, StripeVault::repair);
    }

    private void refusesByState() {
        for (int o : new int[] {1, 4}) {
            refuses("store(" + o + "), there", Due.ARGUMENT, v -> v.store(o));
        }
        for (int o : new int[] {0, 2, 3, 5}) {
            refuses("drop(" + o + ")", Due.ELEMENT, v -> v.drop(o));
            refuses("get(" + o + ")", Due.ELEMENT, v -> v.get(o));
            refuses("check(" + o + ")", Due.ELEMENT, v -> v.check(o));
            refuses("where(" + o + ", 0, 0)", Due.ELEMENT, v -> v.where(o, 0, 0));
            answers("length(" + o + ")", -1, v -> v.length(o));
        }
        refuses("get(1), stripe 1 gone", Due.STATE, v -> v.get(1));
        refuses("at(8), behind the output", Due.INDEX, v -> v.at(8));
        for (int d : new int[] {2, 6}) {
            refuses("fail(" + d + ")", Due.STATE, v -> v.fail(d));
            answers("room(" + d + ")", -1, v -> v.room(d));
        }
        for (int d : new int[] {0, 1, 3, 4, 5, 7}) {
            refuses("renew(" + d + ")", Due.STATE, v -> v.renew(d));
        }
        int[][] shards = {{1, 3, 0}, {1, -1, 0}, {1, 0, 2}, {1, 0, -1}, {4, 2, 0}, {4, -1, 1}, {4, 1, 2}, {4, 1, -1}};
        for (int[] s : shards) {
            refuses("where(" + s[0] + ", " + s[1] + ", " + s[2] + ")", Due.INDEX, v -> v.where(s[0], s[1], s[2]));
        }
    }

    private void refusesFreeSlots() {
        int[][] free = {{2, 0}, {6, 0}, {3, 0}, {3, 9}, {0, 2}, {0, 9}, {4, 1}, {7, 1}};
        for (int[] f : free) {
            refuses("harm(" + f[0] + ", " + f[1] + ", 0, 1)", Due.ELEMENT, v -> v.harm(f[0], f[1], 0, 1));
            refuses("stored(" + f[0] + ", " + f[1] + ", 3)", Due.ELEMENT, v -> v.stored(f[0], f[1], 3));
        }
    }

    /** Calls that only ask change nothing when they answer, either. */
    private void asksWithoutChange() {
        answers("at(7)", 67, v -> v.at(7));
        answers("check(1)", 0, v -> v.check(1));
        answers("check(4)", 0, v -> v.check(4));
        answers("stored(7, 0, 2)", 62 ^ 5, v -> v.stored(7, 0, 2));
        answers("where(1, 1, 0)", -1, v -> v.where(1, 1, 0));
        answers("where(4, 0, 1)", 112, v -> v.where(4, 0, 1));
        answers("length(1)", 12, v -> v.length(1));
        answers("room(0)", 8, v -> v.room(0));
        answers("product(2, -1)", 142, v -> v.product(2, -1));
        answers("harm(7, 0, 2, 256)", 62 ^ 5, v -> v.harm(7, 0, 2, 256));
        Unmoved.answers(RefusalTest::tornAndRead, "torn: get(4) again", 8, v -> v.get(4));
    }

    /** get() changes the output alone, and a second one not even that. */
    private static StripeVault tornAndRead() {
        StripeVault vault = Scenes.torn();
        vault.get(4);
        return vault;
    }

    private void refusesWithoutRoom() {
        refuses("store(5), no slot free", Due.STATE, v -> v.store(5));
        refuses("store(4), there", Due.ARGUMENT, v -> v.store(4));
        answers("room(0)", 0, v -> v.room(0));
        answers("repair()", 0, StripeVault::repair);
    }

    private void refusesWithoutRoomForAll() {
        refuses("store(5), room for one stripe of two", Due.STATE, v -> v.store(5));
        answers("repair()", 0, StripeVault::repair);
    }

    private void refusesWithoutDisks() {
        for (int d = 0; d < 8; d++) {
            int disk = d;
            refuses("fail(" + d + ")", Due.STATE, v -> v.fail(disk));
            refuses("stored(" + d + ", 0, 0)", Due.ELEMENT, v -> v.stored(disk, 0, 0));
            refuses("harm(" + d + ", 9, 3, 1)", Due.ELEMENT, v -> v.harm(disk, 9, 3, 1));
            answers("room(" + d + ")", -1, v -> v.room(disk));
        }
        for (int o : new int[] {1, 2, 3, 4}) {
            refuses("store(" + o + ")", Due.STATE, v -> v.store(o));
        }
        refuses("get(0)", Due.STATE, v -> v.get(0));
        refuses("get(5)", Due.STATE, v -> v.get(5));
        answers("check(0)", 0, v -> v.check(0));
        answers("check(5)", 0, v -> v.check(5));
        answers("where(5, 3, 2)", -1, v -> v.where(5, 3, 2));
        answers("repair()", 0, StripeVault::repair);
        answers("put(1, 1), the draft full", 0, v -> v.put(1, 1) ? 1 : 0);
        answers("put(8, 1), the draft full", 0, v -> v.put(8, 1) ? 1 : 0);
    }

    /** Calls on which two refusals hold. */
    private void throwsTheFirstNamed() {
        for (int o : new int[] {-1, 6}) {
            refuses("where(" + o + ", -1, 0)", Due.ELEMENT, v -> v.where(o, -1, 0));
            refuses("where(" + o + ", 0, 99)", Due.ELEMENT, v -> v.where(o, 0, 99));
        }
        refuses("where(2, 8, 7)", Due.ELEMENT, v -> v.where(2, 8, 7));
        // Slot 9 of disk 2 is free, and the disk not alive.
        refuses("harm(2, 9, 4, 1)", Due.ARGUMENT, v -> v.harm(2, 9, 4, 1));
        refuses("stored(2, 9, -1)", Due.ARGUMENT, v -> v.stored(2, 9, -1));
        refuses("stored(2, 10, 0)", Due.ARGUMENT, v -> v.stored(2, 10, 0));
        if (name.equals("dead")) {
            refuses("store(5), there and no disk", Due.ARGUMENT, v -> v.store(5));
            refuses("store(6), no number and no disk", Due.ARGUMENT, v -> v.store(6));
            Unmoved.refuses(RefusalTest::deadWithoutDraft, "store(1), no draft and no disk", Due.ARGUMENT,
                    v -> v.store(1));
        }
    }

    private static StripeVault deadWithoutDraft() {
        StripeVault vault = Scenes.dead();
        vault.scrap();
        return vault;
    }
}
