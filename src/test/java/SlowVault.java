import java.util.ArrayList;
import java.util.List;
import java.util.NoSuchElementException;
import java.util.TreeMap;

/**
 * The document once more, in another form than the program: shards are objects, products go by
 * logarithms, and a stripe is read by determinants. WalkTest compares the two.
 */
final class SlowVault {
    private static final int[] POWER = new int[255];
    private static final int[] LOG = new int[256];

    static {
        int a = 1;
        for (int i = 0; i < 255; i++) {
            POWER[i] = a;
            LOG[a] = i;
            a = a * 2 >= 256 ? a * 2 ^ 285 : a * 2;
        }
    }

    /** A shard is lost when its disk is -1. */
    private static final class Shard {
        int disk = -1;
        int slot = -1;
        int[] bytes = new int[4];
    }

    private static final class Thing {
        int length;
        List<Shard[]> stripes = new ArrayList<>();
    }

    private final int k;
    private final int m;
    private final boolean[] dead = new boolean[8];
    private final TreeMap<Integer, Thing> things = new TreeMap<>();
    private List<Integer> draft = new ArrayList<>();
    private List<Integer> output = new ArrayList<>();

    SlowVault(int data, int more) {
        k = data < 1 ? 1 : data > 4 ? 4 : data;
        m = more < 1 ? 1 : more > 3 ? 3 : more;
    }

    boolean put(int n, long codes) {
        if (n < 1 || n > 8 || draft.size() + n > 32) {
            return false;
        }
        for (int i = n - 1; i >= 0; i--) {
            draft.add((int) (codes >> 8 * i & 255));
        }
        return true;
    }

    void scrap() {
        draft = new ArrayList<>();
    }

    int store(int object) {
        if (object < 0 || object > 5 || things.containsKey(object) || draft.isEmpty()) {
            throw new IllegalArgumentException();
        }
        Thing thing = new Thing();
        thing.length = draft.size();
        things.put(object, thing);
        for (int from = 0; from < draft.size(); from += 4 * k) {
            int[][] data = new int[k][4];
            for (int i = 0; i < 4 * k; i++) {
                data[i / 4][i % 4] = from + i < draft.size() ? draft.get(from + i) : 0;
            }
            Shard[] stripe = new Shard[k + m];
            thing.stripes.add(stripe);
            for (int s = 0; s < k + m; s++) {
                stripe[s] = new Shard();
            }
            if (placeLost(stripe, data) < k + m) {
                things.remove(object);
                throw new IllegalStateException();
            }
        }
        scrap();
        return thing.stripes.size();
    }

    int drop(int object) {
        int slots = 0;
        for (Shard[] stripe : find(object).stripes) {
            slots += k + m - lost(stripe);
        }
        things.remove(object);
        return slots;
    }

    int get(int object) {
        Thing thing = find(object);
        List<Integer> bytes = new ArrayList<>();
        for (Shard[] stripe : thing.stripes) {
            if (lost(stripe) > m) {
                throw new IllegalStateException();
            }
            for (int[] shard : read(stripe)) {
                for (int b : shard) {
                    bytes.add(b);
                }
            }
        }
        output = bytes.subList(0, thing.length);
        return thing.length;
    }

    int at(int i) {
        if (i < 0 || i >= output.size()) {
            throw new IndexOutOfBoundsException();
        }
        return output.get(i);
    }

    int fail(int disk) {
        needDisk(disk);
        if (dead[disk]) {
            throw new IllegalStateException();
        }
        int count = 0;
        for (Shard shard : allShards()) {
            if (shard.disk == disk) {
                shard.disk = -1;
                count++;
            }
        }
        dead[disk] = true;
        return count;
    }

    int renew(int disk) {
        needDisk(disk);
        if (!dead[disk]) {
            throw new IllegalStateException();
        }
        dead[disk] = false;
        int count = 0;
        for (boolean d : dead) {
            count += d ? 0 : 1;
        }
        return count;
    }

    int repair() {
        int placed = 0;
        for (Thing thing : things.values()) {
            for (Shard[] stripe : thing.stripes) {
                if (lost(stripe) > 0 && lost(stripe) <= m) {
                    placed += placeLost(stripe, read(stripe));
                }
            }
        }
        return placed;
    }

    int check(int object) {
        int count = 0;
        for (Shard[] stripe : find(object).stripes) {
            count += lost(stripe) <= m && differs(stripe, read(stripe)) ? 1 : 0;
        }
        return count;
    }

    int harm(int disk, int slot, int i, int x) {
        Shard shard = shardIn(disk, slot, i);
        return shard.bytes[i] ^= x & 255;
    }

    int stored(int disk, int slot, int i) {
        return shardIn(disk, slot, i).bytes[i];
    }

    int where(int object, int stripe, int shard) {
        Thing thing = find(object);
        if (stripe < 0 || stripe >= thing.stripes.size() || shard < 0 || shard >= k + m) {
            throw new IndexOutOfBoundsException();
        }
        Shard found = thing.stripes.get(stripe)[shard];
        return found.disk < 0 ? -1 : 16 * found.disk + found.slot;
    }

    int length(int object) {
        return things.containsKey(object) ? things.get(object).length : -1;
    }

    int room(int disk) {
        return disk < 0 || disk > 7 || dead[disk] ? -1 : freeSlots(disk).size();
    }

    int product(int a, int b) {
        if (a < 0 || a > 255 || b < -1 || b > 255) {
            throw new IllegalArgumentException();
        }
        if (b == -1 && a == 0) {
            throw new ArithmeticException();
        }
        return b == -1 ? over(1, a) : times(a, b);
    }

    private static int times(int a, int b) {
        return a == 0 || b == 0 ? 0 : POWER[(LOG[a] + LOG[b]) % 255];
    }

    private static int over(int a, int b) {
        return a == 0 ? 0 : POWER[(LOG[a] + 255 - LOG[b]) % 255];
    }

    private int[] factors(int shard) {
        int[] row = new int[k];
        for (int j = 0; j < k; j++) {
            row[j] = shard >= k ? over(1, shard ^ j) : shard == j ? 1 : 0;
        }
        return row;
    }

    private int[] workOut(int shard, int[][] data) {
        int[] bytes = new int[4];
        int[] row = factors(shard);
        for (int t = 0; t < 4; t++) {
            for (int j = 0; j < k; j++) {
                bytes[t] ^= times(row[j], data[j][t]);
            }
        }
        return bytes;
    }

    private int[][] read(Shard[] stripe) {
        int[][] rows = new int[k][];
        Shard[] taken = new Shard[k];
        int count = 0;
        for (int s = 0; s < k + m && count < k; s++) {
            if (stripe[s].disk >= 0) {
                rows[count] = factors(s);
                taken[count] = stripe[s];
                count++;
            }
        }
        int[][] data = new int[k][4];
        for (int j = 0; j < k; j++) {
            for (int t = 0; t < 4; t++) {
                int[][] replaced = new int[k][];
                for (int r = 0; r < k; r++) {
                    replaced[r] = rows[r].clone();
                    replaced[r][j] = taken[r].bytes[t];
                }
                data[j][t] = over(determinant(replaced, 0, 0), determinant(rows, 0, 0));
            }
        }
        return data;
    }

    /** There are no signs where a + a = 0. */
    private int determinant(int[][] rows, int row, int usedColumns) {
        if (row == k) {
            return 1;
        }
        int sum = 0;
        for (int j = 0; j < k; j++) {
            if ((usedColumns >> j & 1) == 0) {
                sum ^= times(rows[row][j], determinant(rows, row + 1, usedColumns | 1 << j));
            }
        }
        return sum;
    }

    private boolean differs(Shard[] stripe, int[][] data) {
        for (int s = 0; s < k + m; s++) {
            if (stripe[s].disk >= 0 && !java.util.Arrays.equals(stripe[s].bytes, workOut(s, data))) {
                return true;
            }
        }
        return false;
    }

    private int placeLost(Shard[] stripe, int[][] data) {
        int placed = 0;
        for (int s = 0; s < k + m; s++) {
            int disk = stripe[s].disk >= 0 ? -1 : chooseDisk(stripe);
            if (disk >= 0) {
                stripe[s].slot = freeSlots(disk).get(0);
                stripe[s].disk = disk;
                stripe[s].bytes = workOut(s, data);
                placed++;
            }
        }
        return placed;
    }

    private int chooseDisk(Shard[] stripe) {
        boolean[] barred = dead.clone();
        for (Shard shard : stripe) {
            if (shard.disk >= 0) {
                barred[shard.disk] = true;
            }
        }
        for (int free = 10; free > 0; free--) {
            for (int disk = 0; disk < 8; disk++) {
                if (!barred[disk] && freeSlots(disk).size() == free) {
                    return disk;
                }
            }
        }
        return -1;
    }

    private List<Shard> allShards() {
        List<Shard> all = new ArrayList<>();
        for (Thing thing : things.values()) {
            for (Shard[] stripe : thing.stripes) {
                all.addAll(List.of(stripe));
            }
        }
        return all;
    }

    private List<Integer> freeSlots(int disk) {
        List<Integer> free = new ArrayList<>(List.of(0, 1, 2, 3, 4, 5, 6, 7, 8, 9));
        for (Shard shard : allShards()) {
            if (shard.disk == disk) {
                free.remove(Integer.valueOf(shard.slot));
            }
        }
        return free;
    }

    private int lost(Shard[] stripe) {
        int count = 0;
        for (Shard shard : stripe) {
            count += shard.disk < 0 ? 1 : 0;
        }
        return count;
    }

    private Thing find(int object) {
        if (!things.containsKey(object)) {
            throw new NoSuchElementException();
        }
        return things.get(object);
    }

    private static void needDisk(int disk) {
        if (disk < 0 || disk > 7) {
            throw new IllegalArgumentException();
        }
    }

    private Shard shardIn(int disk, int slot, int i) {
        needDisk(disk);
        if (slot < 0 || slot > 9 || i < 0 || i > 3) {
            throw new IllegalArgumentException();
        }
        for (Shard shard : allShards()) {
            if (shard.disk == disk && shard.slot == slot) {
                return shard;
            }
        }
        throw new NoSuchElementException();
    }
}
