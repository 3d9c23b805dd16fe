/** Sums and products of bytes, worked out otherwise than in the program: as polynomials, divided by 285. */
final class Bytes {
    private Bytes() {
    }

    static int times(int a, int b) {
        int product = 0;
        for (int i = 0; i < 8; i++) {
            product ^= (b >> i & 1) * (a << i);
        }
        for (int i = 14; i >= 8; i--) {
            product ^= (product >> i & 1) * (285 << (i - 8));
        }
        return product;
    }

    static int inverse(int a) {
        int b = 1;
        while (b < 255 && times(a, b) != 1) {
            b++;
        }
        return b;
    }

    /** The byte of shard number s, of a stripe whose data have these bytes at the same place. */
    static int shardByte(int s, int... data) {
        int sum = 0;
        for (int j = 0; j < data.length; j++) {
            sum ^= s < data.length ? (s == j ? data[j] : 0) : times(inverse(s ^ j), data[j]);
        }
        return sum;
    }
}
