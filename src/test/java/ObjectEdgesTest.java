/** The boundaries in promises 4 to 7, a test for each. */
public final class ObjectEdgesTest {
    public static void main(String[] args) {
        storeRefusesNoSuchNumber();
        storeRefusesANumberTaken();
        storeRefusesAnEmptyDraft();
        storeEmptiesTheDraft();
        storeRefusesWhatCannotBePlaced();
        storeRefusesAtTheLastStripe();
        dropCountsSlots();
        dropRefusesWhereThereIsNone();
        dropLeavesTheOutput();
        getAnswersLengths();
        getRefusesWhereThereIsNone();
        getRefusesAStripeGone();
        atAnswersFirstAndLast();
        atRefusesWithoutOutput();
        atRefusesBehindAShorterOutput();
        Due.end();
    }

    /** Promise 4: "IllegalArgumentException: there is no such number". */
    private static void storeRefusesNoSuchNumber() {
        StripeVault vault = new StripeVault(1, 1);
        Vaults.fillDraft(vault, 3, 1);
        Due.refused("store(-1)", Due.ARGUMENT, () -> vault.store(-1));
        Due.refused("store(6)", Due.ARGUMENT, () -> vault.store(6));
        Due.same("store(0), the draft still there", vault.store(0), 1);
        Vaults.readsAs(vault, 0, 3, 1);
        Vaults.fillDraft(vault, 2, 7);
        Due.same("store(5)", vault.store(5), 1);
        Vaults.readsAs(vault, 5, 2, 7);
    }

    /** Promise 4: "IllegalArgumentException: ... an object has it": until it is dropped. */
    private static void storeRefusesANumberTaken() {
        for (int o = 0; o < 6; o++) {
            int object = o;
            StripeVault vault = new StripeVault(2, 1);
            Vaults.store(vault, object, 5, 1);
            Vaults.fillDraft(vault, 9, 80);
            Due.refused("store(" + o + "), there", Due.ARGUMENT, () -> vault.store(object));
            Vaults.readsAs(vault, object, 5, 1);
            Due.same("drop(" + o + ")", vault.drop(object), 3);
            Due.same("store(" + o + ")", vault.store(object), 2);
            Vaults.readsAs(vault, object, 9, 80);
        }
        StripeVault gone = Scenes.dead();
        Due.refused("store(5), there although gone", Due.ARGUMENT, () -> gone.store(5));
    }

    /** Promise 4: "IllegalArgumentException: ... the draft is empty": one byte is enough. */
    private static void storeRefusesAnEmptyDraft() {
        StripeVault vault = new StripeVault(4, 3);
        Due.refused("store(0), never a draft", Due.ARGUMENT, () -> vault.store(0));
        vault.put(0, 1);
        vault.put(9, 1);
        Due.refused("store(0), nothing was put", Due.ARGUMENT, () -> vault.store(0));
        vault.put(1, 0);
        Due.same("store(0) of one byte", vault.store(0), 1);
        Due.same("length(0)", vault.length(0), 1);
        Vaults.readsAs(vault, 0, 1, 0);
    }

    /** Promise 4: "the draft is empty then": and has room for 32 again. */
    private static void storeEmptiesTheDraft() {
        StripeVault vault = Vaults.with(4, 1, 32, 0);
        Due.refused("store(1)", Due.ARGUMENT, () -> vault.store(1));
        Vaults.fillDraft(vault, 32, 100);
        Due.same("put(1, 1)", vault.put(1, 1), false);
        Due.same("store(1)", vault.store(1), 2);
        Vaults.readsAs(vault, 1, 32, 100);
        Vaults.readsAs(vault, 0, 32, 0);
    }

    /** Promise 4: "IllegalStateException: a shard could not be placed": 16 bytes fit, and 17 do not. */
    private static void storeRefusesWhatCannotBePlaced() {
        StripeVault vault = Scenes.nearlyFull();
        Vaults.roomIs(vault, 1, 1, 1, 1, 1, 1, 2, 2);
        Due.refused("store(5) of 17 bytes", Due.STATE, () -> vault.store(5));
        Vaults.roomIs(vault, 1, 1, 1, 1, 1, 1, 2, 2);
        Due.same("length(5)", vault.length(5), -1);
        vault.scrap();
        Vaults.fillDraft(vault, 16, 9);
        Due.same("store(5) of 16 bytes", vault.store(5), 1);
        Vaults.placesAre(vault, 5, 0, 96 + 8, 112 + 8, 9, 16 + 9, 32 + 9, 48 + 9, 64 + 9);
        Vaults.roomIs(vault, 0, 0, 0, 0, 0, 1, 1, 1);
    }

    /** Promise 4: the last shard of the last of 8 stripes finds no slot, or the last one. */
    private static void storeRefusesAtTheLastStripe() {
        StripeVault vault = Scenes.full();
        vault.drop(4);
        Vaults.store(vault, 5, 1, 1);
        Vaults.roomIs(vault, 1, 1, 2, 2, 2, 2, 2, 2);
        Vaults.fillDraft(vault, 29, 0);
        Due.refused("store(4), 16 shards into 14 slots", Due.STATE, () -> vault.store(4));
        Vaults.roomIs(vault, 1, 1, 2, 2, 2, 2, 2, 2);
        vault.drop(5);
        Due.same("store(4), 16 shards into 16 slots", vault.store(4), 8);
        Vaults.roomIs(vault, 0, 0, 0, 0, 0, 0, 0, 0);
        Vaults.readsAs(vault, 4, 29, 0);
    }

    /** Promise 5: "its slots are free: how many these were": from none to all. */
    private static void dropCountsSlots() {
        StripeVault vault = new StripeVault(4, 3);
        for (int lost = 0; lost <= 7; lost++) {
            Vaults.store(vault, 0, 16, 0);
            for (int disk = 0; disk < lost; disk++) {
                vault.fail(disk);
            }
            Due.same("drop(0), " + lost + " shards lost", vault.drop(0), 7 - lost);
            for (int disk = 0; disk < lost; disk++) {
                vault.renew(disk);
            }
            Vaults.roomIs(vault, 10, 10, 10, 10, 10, 10, 10, 10);
        }
        Due.same("drop(3) of full disks", Scenes.full().drop(3), 16);
    }

    /** Promise 5: "NoSuchElementException: there is none". */
    private static void dropRefusesWhereThereIsNone() {
        StripeVault vault = new StripeVault(1, 1);
        Vaults.store(vault, 0, 4, 0);
        Vaults.store(vault, 5, 4, 0);
        for (int o : new int[] {-1, 1, 4, 6}) {
            Due.refused("drop(" + o + ")", Due.ELEMENT, () -> vault.drop(o));
        }
        Due.same("drop(0)", vault.drop(0), 2);
        Due.same("drop(5)", vault.drop(5), 2);
        Due.refused("drop(0) again", Due.ELEMENT, () -> vault.drop(0));
        Due.refused("drop(5) again", Due.ELEMENT, () -> vault.drop(5));
    }

    /** Promise 5 tells of the object and its slots alone: the output and the draft stay. */
    private static void dropLeavesTheOutput() {
        StripeVault vault = Scenes.full();
        vault.drop(2);
        Vaults.outputIs(vault, 32, 80);
        Due.same("store(2) of the draft", vault.store(2), 1);
        Vaults.readsAs(vault, 2, 3, 200);
    }

    /** Promise 6: "is the OUTPUT then: its length": 1, one stripe, one byte more, and 32. */
    private static void getAnswersLengths() {
        for (int data = 1; data <= 4; data++) {
            for (int length : new int[] {1, 4 * data, 4 * data + 1, 31, 32}) {
                StripeVault vault = Vaults.with(data, 3, length, 130);
                Vaults.readsAs(vault, 0, length, 130);
                vault.fail(0);
                vault.fail(1);
                Vaults.readsAs(vault, 0, length, 130);
            }
        }
    }

    /** Promise 6: "NoSuchElementException: there is none". */
    private static void getRefusesWhereThereIsNone() {
        StripeVault vault = new StripeVault(1, 1);
        Vaults.store(vault, 0, 4, 1);
        Vaults.store(vault, 5, 4, 50);
        for (int o : new int[] {-1, 1, 4, 6}) {
            Due.refused("get(" + o + ")", Due.ELEMENT, () -> vault.get(o));
        }
        Vaults.readsAs(vault, 0, 4, 1);
        Vaults.readsAs(vault, 5, 4, 50);
        vault.drop(5);
        Due.refused("get(5), dropped", Due.ELEMENT, () -> vault.get(5));
        Vaults.outputIs(vault, 4, 50);
    }

    /** Promise 6: "IllegalStateException: one of its stripes is gone": the first, a middle one, the last. */
    private static void getRefusesAStripeGone() {
        for (int stripe = 0; stripe < 4; stripe++) {
            StripeVault vault = new StripeVault(1, 1);
            Vaults.store(vault, 1, 16, 10);
            Vaults.store(vault, 2, 16, 200);
            vault.get(2);
            Due.same("fail", vault.fail(2 * stripe), 2);
            Vaults.readsAs(vault, 1, 16, 10);
            vault.get(2);
            vault.fail(2 * stripe + 1);
            Due.refused("get(1), stripe " + stripe + " gone", Due.STATE, () -> vault.get(1));
            Vaults.outputIs(vault, 16, 200);
            Due.same("length(1)", vault.length(1), 16);
        }
    }

    /** Promise 7: "Byte i of the output. IndexOutOfBoundsException: there is none". */
    private static void atAnswersFirstAndLast() {
        for (int length : new int[] {1, 2, 31, 32}) {
            StripeVault vault = Vaults.with(3, 1, length, 225);
            vault.get(0);
            Due.same("at(0)", vault.at(0), 225);
            Due.same("at(" + (length - 1) + ")", vault.at(length - 1), (224 + length) & 255);
            Due.refused("at(-1)", Due.INDEX, () -> vault.at(-1));
            Due.refused("at(" + length + ")", Due.INDEX, () -> vault.at(length));
        }
    }

    /** Promise 7: there is no output before the first get(), whatever is stored or refused. */
    private static void atRefusesWithoutOutput() {
        StripeVault vault = Vaults.with(1, 1, 32, 1);
        vault.check(0);
        vault.fail(0);
        vault.repair();
        Due.refused("get(1)", Due.ELEMENT, () -> vault.get(1));
        vault.fail(2);
        vault.fail(3);
        Due.refused("get(0)", Due.STATE, () -> vault.get(0));
        Due.refused("at(0)", Due.INDEX, () -> vault.at(0));
    }

    /** Promise 7: a shorter output has none of a longer one's bytes, and none of the zeros behind its end. */
    private static void atRefusesBehindAShorterOutput() {
        StripeVault vault = Vaults.with(4, 1, 32, 1);
        Vaults.store(vault, 1, 5, 70);
        Vaults.readsAs(vault, 0, 32, 1);
        Vaults.readsAs(vault, 1, 5, 70);
        for (int i : new int[] {5, 6, 15, 16, 31}) {
            Due.refused("at(" + i + ")", Due.INDEX, () -> vault.at(i));
        }
        Vaults.readsAs(vault, 0, 32, 1);
    }
}
