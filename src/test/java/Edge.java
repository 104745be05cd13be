/** Ints at which an answer could change, or an operation wrap around. */
final class Edge {
    static final int MIN = Integer.MIN_VALUE;
    static final int MAX = Integer.MAX_VALUE;

    static final int[] INTS = {MIN, MIN + 1, -65536, -257, -256, -65, -64, -33, -32, -17, -16, -9,
        -8, -7, -2, -1, 0, 1, 2, 6, 7, 8, 9, 15, 16, 17, 18, 31, 32, 33, 63, 64, 65, 127, 128, 255,
        256, 257, 65535, 65536, MAX - 1, MAX};

    private Edge() {
    }
}
