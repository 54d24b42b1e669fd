/** Shelves that tests begin with. Their ids are chosen by rank, so that every depth can be told beforehand. */
final class Shelves {
    private static final long RANKS = 1L << 32;

    private Shelves() {
    }

    /** The rank's steps taken back: a factor that is odd has an inverse, and x ^ (x >>> 16) undoes itself. */
    static int idOfRank(long rank) {
        int factor = 0x9E3779B1;
        int inverse = factor;
        for (int i = 0; i < 5; i++) {
            inverse = inverse * (2 - factor * inverse);
        }
        int h = (int) rank;
        for (int i = 0; i < 3; i++) {
            h = (h ^ (h >>> 16)) * inverse;
        }
        return h;
    }

    /** The n-th id, from 0 on, of a row of falling ranks; between two of the row there is room for other ranks. */
    static int top(int n) {
        return idOfRank(RANKS - 1 - 1000L * n);
    }

    /** An id whose rank is just below that of top(n), and above that of top(n + 1). */
    static int below(int n) {
        return idOfRank(RANKS - 2 - 1000L * n);
    }

    /** The points top(0) to top(n - 1) at one place, of the colours 0 to n - 1: three a depth, the rest at depth 4. */
    static PointShelf column(int n, int x, int y, int z) {
        PointShelf shelf = new PointShelf();
        addColumn(shelf, n, x, y, z);
        return shelf;
    }

    static void addColumn(PointShelf shelf, int n, int x, int y, int z) {
        for (int i = 0; i < n; i++) {
            shelf.add(top(i), x, y, z, i);
        }
    }

    /** The id 0 at the least place and the ids 1, 2, 3 one off on x, y, z: only from 0, 0, 0 a box to there has one. */
    static PointShelf aroundLeastPlace() {
        PointShelf shelf = new PointShelf();
        shelf.add(0, 0, 0, 0, 0);
        shelf.add(1, 1, 0, 0, 0);
        shelf.add(2, 0, 1, 0, 0);
        shelf.add(3, 0, 0, 1, 0);
        return shelf;
    }

    /** The points top(0) to top(47), all of colour 0, in the tree that takes the most pages: 38. */
    static PointShelf wide() {
        PointShelf shelf = new PointShelf();
        for (int i = 0; i < 48; i++) {
            int[] place = WideTree.places().get(i);
            shelf.add(top(i), place[0], place[1], place[2], 0);
        }
        return shelf;
    }

    /**
     * Gives the wide tree's points a colour so that as many nodes, 2 to 34, are not clean: the top,
     * the first three cubes of depth 1 as they are needed, and cubes of depth 2 that have one point each.
     */
    static void spoil(PointShelf shelf, int nodes, int colour) {
        int left = nodes - 1;
        for (int i = 19; left > 0; i++) {
            boolean firstOfCube = (i - 19) % 8 == 0;
            if (firstOfCube && left == 1) {
                shelf.recolour(top(3 + (i - 19) / 8 * 3), colour);
                return;
            }
            shelf.recolour(top(i), colour);
            left -= firstOfCube ? 2 : 1;
        }
    }
}
