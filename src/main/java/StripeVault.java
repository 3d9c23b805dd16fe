import java.util.Arrays;
import java.util.NoSuchElementException;

/**
 * Keeps objects in stripes of shards on disks of which some may fail: what is lost is worked out
 * from what is left, and put on other disks again.
 */
public final class StripeVault {
    public static final int NONE = -1;

    private static final int MOST_DATA = 4;
    private static final int MOST_MORE = 3;
    private static final int SHARD_BYTES = 4;
    private static final int DISKS = 8;
    private static final int SLOTS = 10;
    private static final int OBJECTS = 6;
    private static final int MOST_BYTES = 32;
    private static final int MOST_PUT = 8;
    /** A place is PLACE_STEP * the disk + the slot, as where() answers it. */
    private static final int PLACE_STEP = 16;

    private final Coder coder;
    private final Disks disks;
    private final Catalogue catalogue;
    private final int[] draft;
    private int draftLength;
    private final int[] output;
    private int outputLength;

    public StripeVault(int data, int more) {
        int dataShards = nearest(data, MOST_DATA);
        int shards = dataShards + nearest(more, MOST_MORE);
        coder = new Coder(dataShards, shards);
        disks = new Disks();
        catalogue = new Catalogue(dataShards, shards);
        draft = new int[MOST_BYTES];
        draftLength = 0;
        output = new int[MOST_BYTES];
        outputLength = 0;
    }

    public boolean put(int n, long codes) {
        if (n < 1 || n > MOST_PUT || draftLength + n > MOST_BYTES) {
            return false;
        }
        for (int i = 0; i < n; i++) {
            draft[draftLength + i] = (int) (codes >>> (8 * (n - 1 - i))) & 255;
        }
        draftLength += n;
        return true;
    }

    public void scrap() {
        draftLength = 0;
    }

    public int store(int object) throws IllegalArgumentException, IllegalStateException {
        if (!isObjectNumber(object) || catalogue.holds(object) || draftLength == 0) {
            throw new IllegalArgumentException();
        }
        catalogue.enter(object, draftLength);
        if (!placeDraft(object)) {
            releaseObject(object);
            throw new IllegalStateException();
        }
        draftLength = 0;
        return catalogue.stripesOf(object);
    }

    public int drop(int object) throws NoSuchElementException {
        requireObject(object);
        return releaseObject(object);
    }

    public int get(int object) throws NoSuchElementException, IllegalStateException {
        requireObject(object);
        if (hasGoneStripe(object)) {
            throw new IllegalStateException();
        }
        for (int stripe = 0; stripe < catalogue.stripesOf(object); stripe++) {
            readStripe(catalogue.rowOf(object, stripe));
            copyDataToOutput(stripe);
        }
        outputLength = catalogue.lengthOf(object);
        return outputLength;
    }

    public int at(int i) throws IndexOutOfBoundsException {
        if (i < 0 || i >= outputLength) {
            throw new IndexOutOfBoundsException();
        }
        return output[i];
    }

    public int fail(int disk) throws IllegalArgumentException, IllegalStateException {
        requireDisk(disk);
        if (!disks.isAlive(disk)) {
            throw new IllegalStateException();
        }
        int lost = SLOTS - disks.freeSlotsOf(disk);
        disks.stop(disk);
        catalogue.loseDisk(disk);
        return lost;
    }

    public int renew(int disk) throws IllegalArgumentException, IllegalStateException {
        requireDisk(disk);
        if (disks.isAlive(disk)) {
            throw new IllegalStateException();
        }
        disks.start(disk);
        return disks.countAlive();
    }

    public int repair() {
        int placed = 0;
        for (int object = 0; object < OBJECTS; object++) {
            for (int stripe = 0; stripe < catalogue.stripesOf(object); stripe++) {
                placed += repairStripe(catalogue.rowOf(object, stripe));
            }
        }
        return placed;
    }

    public int check(int object) throws NoSuchElementException {
        requireObject(object);
        int wrong = 0;
        for (int stripe = 0; stripe < catalogue.stripesOf(object); stripe++) {
            int row = catalogue.rowOf(object, stripe);
            if (!isGone(row) && hasWrongShard(row)) {
                wrong++;
            }
        }
        return wrong;
    }

    public int harm(int disk, int slot, int i, int x)
            throws IllegalArgumentException, NoSuchElementException {
        requireStoredByte(disk, slot, i);
        int place = placeAt(disk, slot);
        int harmed = disks.byteAt(place, i) ^ (x & 255);
        disks.setByte(place, i, harmed);
        return harmed;
    }

    public int stored(int disk, int slot, int i)
            throws IllegalArgumentException, NoSuchElementException {
        requireStoredByte(disk, slot, i);
        return disks.byteAt(placeAt(disk, slot), i);
    }

    public int where(int object, int stripe, int shard)
            throws NoSuchElementException, IndexOutOfBoundsException {
        requireObject(object);
        if (stripe < 0 || stripe >= catalogue.stripesOf(object)
                || shard < 0 || shard >= coder.shards) {
            throw new IndexOutOfBoundsException();
        }
        return catalogue.placeOf(catalogue.rowOf(object, stripe), shard);
    }

    public int length(int object) {
        return isObjectNumber(object) && catalogue.holds(object)
                ? catalogue.lengthOf(object) : NONE;
    }

    public int room(int disk) {
        return isDiskNumber(disk) && disks.isAlive(disk) ? disks.freeSlotsOf(disk) : NONE;
    }

    public int product(int a, int b) throws IllegalArgumentException, ArithmeticException {
        if (!isByte(a) || !isByte(b) && b != -1) {
            throw new IllegalArgumentException();
        }
        if (b != -1) {
            return times(a, b);
        }
        if (a == 0) {
            throw new ArithmeticException();
        }
        return inverse(a);
    }

    private static int nearest(int wanted, int most) {
        return Math.max(1, Math.min(wanted, most));
    }

    private static boolean isByte(int a) {
        return a >= 0 && a <= 255;
    }

    private static boolean isObjectNumber(int object) {
        return object >= 0 && object < OBJECTS;
    }

    private static boolean isDiskNumber(int disk) {
        return disk >= 0 && disk < DISKS;
    }

    private static int placeAt(int disk, int slot) {
        return PLACE_STEP * disk + slot;
    }

    private static int times(int a, int b) {
        int sum = 0;
        int doubled = a;
        for (int i = 0; i < 8; i++) {
            if ((b >> i & 1) == 1) {
                sum ^= doubled;
            }
            doubled *= 2;
            if (doubled >= 256) {
                doubled ^= 285;
            }
        }
        return sum;
    }

    /** The bytes other than 0 are a group of 255, so a to the power of 254 is 1 / a. */
    private static int inverse(int a) {
        int square = a;
        int power = 1;
        for (int i = 1; i < 8; i++) {
            square = times(square, square);
            power = times(power, square);
        }
        return power;
    }

    private void requireObject(int object) {
        if (!isObjectNumber(object) || !catalogue.holds(object)) {
            throw new NoSuchElementException();
        }
    }

    private void requireDisk(int disk) {
        if (!isDiskNumber(disk)) {
            throw new IllegalArgumentException();
        }
    }

    private void requireStoredByte(int disk, int slot, int i) {
        requireDisk(disk);
        if (slot < 0 || slot >= SLOTS || i < 0 || i >= SHARD_BYTES) {
            throw new IllegalArgumentException();
        }
        if (!disks.isTaken(placeAt(disk, slot))) {
            throw new NoSuchElementException();
        }
    }

    /** False when a shard found no disk; what was placed before it stays for the caller to release. */
    private boolean placeDraft(int object) {
        for (int stripe = 0; stripe < catalogue.stripesOf(object); stripe++) {
            takeDataFromDraft(stripe);
            int row = catalogue.rowOf(object, stripe);
            for (int shard = 0; shard < coder.shards; shard++) {
                if (!placeShard(row, shard)) {
                    return false;
                }
            }
        }
        return true;
    }

    private void takeDataFromDraft(int stripe) {
        int from = stripe * coder.dataBytes;
        for (int i = 0; i < coder.dataBytes; i++) {
            coder.data[i] = from + i < draftLength ? draft[from + i] : 0;
        }
    }

    private void copyDataToOutput(int stripe) {
        int from = stripe * coder.dataBytes;
        for (int i = 0; i < coder.dataBytes && from + i < MOST_BYTES; i++) {
            output[from + i] = coder.data[i];
        }
    }

    /** Places a shard as the coder works it out from the data it has; false when no disk takes it. */
    private boolean placeShard(int row, int shard) {
        int disk = roomiestDiskFor(row);
        int place = disk == NONE ? NONE : disks.takeSlot(disk);
        if (place == NONE) {
            return false;
        }
        for (int t = 0; t < SHARD_BYTES; t++) {
            disks.setByte(place, t, coder.shardByte(shard, t));
        }
        catalogue.setPlace(row, shard, place);
        return true;
    }

    private int roomiestDiskFor(int row) {
        int best = NONE;
        int most = 0;
        for (int disk = 0; disk < DISKS; disk++) {
            int free = disks.freeSlotsOf(disk);
            if (disks.isAlive(disk) && free > most && !catalogue.isOnDisk(row, disk)) {
                best = disk;
                most = free;
            }
        }
        return best;
    }

    /** Answers how many slots became free. */
    private int releaseObject(int object) {
        int released = 0;
        for (int stripe = 0; stripe < catalogue.stripesOf(object); stripe++) {
            int row = catalogue.rowOf(object, stripe);
            for (int shard = 0; shard < coder.shards; shard++) {
                int place = catalogue.placeOf(row, shard);
                if (place != NONE) {
                    disks.releaseSlot(place);
                    catalogue.setPlace(row, shard, NONE);
                    released++;
                }
            }
        }
        catalogue.strike(object);
        return released;
    }

    private boolean isGone(int row) {
        return catalogue.countLost(row) > coder.shards - coder.dataShards;
    }

    private boolean hasGoneStripe(int object) {
        for (int stripe = 0; stripe < catalogue.stripesOf(object); stripe++) {
            if (isGone(catalogue.rowOf(object, stripe))) {
                return true;
            }
        }
        return false;
    }

    /** Leaves the data of a stripe that is not gone in the coder. */
    private void readStripe(int row) {
        int spare = coder.dataShards;
        boolean whole = true;
        for (int shard = 0; shard < coder.dataShards; shard++) {
            int taken = shard;
            if (catalogue.placeOf(row, shard) == NONE) {
                whole = false;
                spare = nextKept(row, spare);
                taken = spare;
                spare++;
            }
            giveEquation(row, shard, taken);
        }
        if (!whole) {
            coder.solve();
        }
    }

    private int nextKept(int row, int from) {
        int shard = from;
        while (shard < coder.shards && catalogue.placeOf(row, shard) == NONE) {
            shard++;
        }
        return shard;
    }

    private void giveEquation(int row, int line, int shard) {
        int place = shard < coder.shards ? catalogue.placeOf(row, shard) : NONE;
        if (place == NONE) {
            return;
        }
        coder.setEquation(line, shard);
        for (int t = 0; t < SHARD_BYTES; t++) {
            coder.data[line * SHARD_BYTES + t] = disks.byteAt(place, t);
        }
    }

    /** Answers how many shards were placed. */
    private int repairStripe(int row) {
        if (isGone(row) || catalogue.countLost(row) == 0) {
            return 0;
        }
        readStripe(row);
        int placed = 0;
        for (int shard = 0; shard < coder.shards; shard++) {
            if (catalogue.placeOf(row, shard) == NONE && placeShard(row, shard)) {
                placed++;
            }
        }
        return placed;
    }

    private boolean hasWrongShard(int row) {
        readStripe(row);
        for (int shard = 0; shard < coder.shards; shard++) {
            int place = catalogue.placeOf(row, shard);
            if (place != NONE && !isAsWorkedOut(place, shard)) {
                return true;
            }
        }
        return false;
    }

    private boolean isAsWorkedOut(int place, int shard) {
        for (int t = 0; t < SHARD_BYTES; t++) {
            if (disks.byteAt(place, t) != coder.shardByte(shard, t)) {
                return false;
            }
        }
        return true;
    }

    /** The arithmetic of one stripe at a time, on rows that are made once and used again. */
    private static final class Coder {
        final int dataShards;
        final int shards;
        final int dataBytes;
        /** The data of the stripe at hand; before solve(), the bytes of the shards that were taken. */
        final int[] data;
        /** Line s has the factors by which shard s is the sum of the data. */
        private final int[] factors;
        /** Line j has the factors of the shard that was taken in the place of data shard j. */
        private final int[] equations;

        Coder(int dataShards, int shards) {
            this.dataShards = dataShards;
            this.shards = shards;
            dataBytes = SHARD_BYTES * dataShards;
            data = new int[dataBytes];
            equations = new int[dataShards * dataShards];
            factors = new int[shards * dataShards];
            for (int shard = 0; shard < shards; shard++) {
                for (int j = 0; j < dataShards; j++) {
                    factors[shard * dataShards + j] = factor(shard, j, dataShards);
                }
            }
        }

        private static int factor(int shard, int j, int dataShards) {
            if (shard < dataShards) {
                return shard == j ? 1 : 0;
            }
            return inverse(shard ^ j);
        }

        int shardByte(int shard, int t) {
            if (shard < dataShards) {
                return data[shard * SHARD_BYTES + t];
            }
            int sum = 0;
            for (int j = 0; j < dataShards; j++) {
                sum ^= times(factors[shard * dataShards + j], data[j * SHARD_BYTES + t]);
            }
            return sum;
        }

        void setEquation(int line, int shard) {
            System.arraycopy(factors, shard * dataShards, equations, line * dataShards, dataShards);
        }

        /**
         * Needs no search for a pivot: a data shard that was taken stands on its own line, and every
         * square part of the other shards' factors (a Cauchy matrix) has an inverse, so that no
         * leading part of the equations is singular.
         */
        void solve() {
            for (int pivot = 0; pivot < dataShards; pivot++) {
                multiplyLine(pivot, inverse(equations[pivot * dataShards + pivot]));
                for (int line = 0; line < dataShards; line++) {
                    int factor = equations[line * dataShards + pivot];
                    if (line != pivot && factor != 0) {
                        addLine(line, pivot, factor);
                    }
                }
            }
        }

        private void multiplyLine(int line, int factor) {
            for (int j = 0; j < dataShards; j++) {
                int index = line * dataShards + j;
                equations[index] = times(equations[index], factor);
            }
            for (int t = 0; t < SHARD_BYTES; t++) {
                int index = line * SHARD_BYTES + t;
                data[index] = times(data[index], factor);
            }
        }

        private void addLine(int line, int added, int factor) {
            for (int j = 0; j < dataShards; j++) {
                equations[line * dataShards + j] ^= times(equations[added * dataShards + j], factor);
            }
            for (int t = 0; t < SHARD_BYTES; t++) {
                data[line * SHARD_BYTES + t] ^= times(data[added * SHARD_BYTES + t], factor);
            }
        }
    }

    /** Which disks are alive, which of their slots are taken, and the bytes in these. */
    private static final class Disks {
        private final boolean[] alive;
        private final int[] freeSlots;
        private final boolean[] taken;
        private final int[] bytes;

        Disks() {
            alive = new boolean[DISKS];
            freeSlots = new int[DISKS];
            taken = new boolean[DISKS * PLACE_STEP];
            bytes = new int[DISKS * PLACE_STEP * SHARD_BYTES];
            for (int disk = 0; disk < DISKS; disk++) {
                alive[disk] = true;
                freeSlots[disk] = SLOTS;
            }
        }

        boolean isAlive(int disk) {
            return alive[disk];
        }

        int countAlive() {
            int count = 0;
            for (int disk = 0; disk < DISKS; disk++) {
                if (alive[disk]) {
                    count++;
                }
            }
            return count;
        }

        int freeSlotsOf(int disk) {
            return freeSlots[disk];
        }

        void stop(int disk) {
            alive[disk] = false;
            freeSlots[disk] = SLOTS;
            for (int slot = 0; slot < SLOTS; slot++) {
                taken[placeAt(disk, slot)] = false;
            }
        }

        void start(int disk) {
            alive[disk] = true;
        }

        boolean isTaken(int place) {
            return taken[place];
        }

        /** Takes the least free slot and answers its place; NONE when no slot is free. */
        int takeSlot(int disk) {
            for (int slot = 0; slot < SLOTS; slot++) {
                int place = placeAt(disk, slot);
                if (!taken[place]) {
                    taken[place] = true;
                    freeSlots[disk]--;
                    return place;
                }
            }
            return NONE;
        }

        void releaseSlot(int place) {
            taken[place] = false;
            freeSlots[place / PLACE_STEP]++;
        }

        int byteAt(int place, int t) {
            return bytes[place * SHARD_BYTES + t];
        }

        void setByte(int place, int t, int value) {
            bytes[place * SHARD_BYTES + t] = value;
        }
    }

    /** Which objects there are, how long they are, and where their shards lie. */
    private static final class Catalogue {
        /** Enough for 8 stripes, the most there can be, of 7 shards, the most one can have. */
        private static final int OBJECT_ROW = 56;

        private final int shards;
        private final int stripeBytes;
        /** 0 where there is no object. */
        private final int[] lengths;
        private final int[] places;

        Catalogue(int dataShards, int shards) {
            this.shards = shards;
            stripeBytes = SHARD_BYTES * dataShards;
            lengths = new int[OBJECTS];
            places = new int[OBJECTS * OBJECT_ROW];
            Arrays.fill(places, NONE);
        }

        boolean holds(int object) {
            return lengths[object] > 0;
        }

        int lengthOf(int object) {
            return lengths[object];
        }

        int stripesOf(int object) {
            return (lengths[object] + stripeBytes - 1) / stripeBytes;
        }

        void enter(int object, int length) {
            lengths[object] = length;
        }

        void strike(int object) {
            lengths[object] = 0;
        }

        /** The row of a stripe is where its shards' places begin: it stands for the stripe elsewhere. */
        int rowOf(int object, int stripe) {
            return object * OBJECT_ROW + stripe * shards;
        }

        int placeOf(int row, int shard) {
            return places[row + shard];
        }

        void setPlace(int row, int shard, int place) {
            places[row + shard] = place;
        }

        int countLost(int row) {
            int lost = 0;
            for (int shard = 0; shard < shards; shard++) {
                if (places[row + shard] == NONE) {
                    lost++;
                }
            }
            return lost;
        }

        boolean isOnDisk(int row, int disk) {
            for (int shard = 0; shard < shards; shard++) {
                if (isPlaceOnDisk(places[row + shard], disk)) {
                    return true;
                }
            }
            return false;
        }

        void loseDisk(int disk) {
            for (int i = 0; i < places.length; i++) {
                if (isPlaceOnDisk(places[i], disk)) {
                    places[i] = NONE;
                }
            }
        }

        private static boolean isPlaceOnDisk(int place, int disk) {
            return place != NONE && place / PLACE_STEP == disk;
        }
    }
}
