import java.util.NoSuchElementException;

/** A shelf of points in a tree of cubes; ../shared/DOC.md tells what each call promises. */
public final class PointShelf {
    private static final int SIDE = 16;
    private static final int DEEPEST = 4;
    private static final int MOST_POINTS = 48;
    private static final int POINTS_A_NODE = 3;
    private static final int POINTS_A_PAGE = 6;
    private static final int PAGES = 64;
    private static final int ROOT_PAGES = 1;
    private static final int MOST_CHARGE = 99;
    private static final int NO_CHARGE = -1;
    private static final int NONE = -1;

    private static final int RANK_FACTOR = 0x9E3779B1;
    private static final int RANK_ROUNDS = 3;
    private static final long UNSIGNED_MASK = 0xFFFFFFFFL;
    private static final long DISTANCE_UNIT = 1L << 32;

    private final Tree present;
    private final Tree committed;
    private final Listing listing;
    private int cornerX;
    private int cornerY;
    private int cornerZ;
    private int pagesLeft;
    private int pagesWritten;

    public PointShelf() {
        present = new Tree();
        committed = new Tree();
        listing = new Listing();
        pagesLeft = NO_CHARGE;
    }

    public int add(int id, int x, int y, int z, int colour) throws IllegalArgumentException, IllegalStateException {
        requirePlace(x, y, z);
        if (present.find(id) != NONE) {
            throw new IllegalStateException("there is a point with that id");
        }
        if (present.size() >= MOST_POINTS) {
            throw new IllegalStateException("there are 48 points");
        }
        return present.depthOf(present.insert(id, x, y, z, colour));
    }

    public int remove(int id) throws NoSuchElementException {
        int point = findPoint(id);
        int depth = present.depthOf(point);
        present.delete(point);
        return depth;
    }

    public int recolour(int id, int colour) throws NoSuchElementException {
        int point = findPoint(id);
        int before = present.colourOf(point);
        present.setColour(point, colour);
        return before;
    }

    public int field(int id, int f) throws IllegalArgumentException, NoSuchElementException {
        if (f < 0 || f > 4) {
            throw new IllegalArgumentException("a point has the fields 0 to 4");
        }
        int point = findPoint(id);
        switch (f) {
            case 0:
                return present.xOf(point);
            case 1:
                return present.yOf(point);
            case 2:
                return present.zOf(point);
            case 3:
                return present.colourOf(point);
            default:
                return present.depthOf(point);
        }
    }

    public void corner(int x, int y, int z) throws IllegalArgumentException {
        requirePlace(x, y, z);
        setCorner(x, y, z);
    }

    public int box(int x, int y, int z, int depth) throws IllegalArgumentException {
        requirePlace(x, y, z);
        if (!isDepth(depth)) {
            throw new IllegalArgumentException("a depth is 0 to 4");
        }
        listing.clear();
        for (int point = 0; point < present.size(); point++) {
            if (present.depthOf(point) <= depth && isInBox(point, x, y, z)) {
                listing.insert(present.idOf(point));
            }
        }
        return listing.size();
    }

    public int next() throws NoSuchElementException {
        return listing.takeFirst();
    }

    public int count(int x, int y, int z) throws IllegalArgumentException {
        requirePlace(x, y, z);
        int found = 0;
        for (int point = 0; point < present.size(); point++) {
            if (isInBox(point, x, y, z)) {
                found++;
            }
        }
        return found;
    }

    public int nearest(int x, int y, int z, int k) throws IllegalArgumentException, NoSuchElementException {
        requirePlace(x, y, z);
        if (k < 1) {
            throw new IllegalArgumentException("the nearest point is the first one");
        }
        if (k > present.size()) {
            throw new NoSuchElementException("there are fewer points");
        }
        return present.idByDistance(x, y, z, k);
    }

    public int kept(int depth, int cx, int cy, int cz, int i)
            throws IllegalArgumentException, NoSuchElementException {
        if (!isCube(depth, cx, cy, cz)) {
            throw new IllegalArgumentException("there is no such cube");
        }
        int point = present.findKept(depth, cx, cy, cz, i);
        if (point == NONE) {
            throw new NoSuchElementException("the node keeps none there");
        }
        return present.idOf(point);
    }

    public int commit() throws IllegalStateException, UnsupportedOperationException {
        int changes = present.markChanges(committed) + committed.markChanges(present);
        if (changes == 0) {
            return 0;
        }
        int nodePages = present.pagesToWrite(committed);
        if (nodePages > freePages()) {
            throw new IllegalStateException("too few pages are free");
        }
        int pages = nodePages + ROOT_PAGES;
        if (pagesLeft != NO_CHARGE && pages > pagesLeft) {
            losePower();
            throw new UnsupportedOperationException("the power went");
        }
        writePages(pages);
        committed.copyFrom(present);
        return pages;
    }

    public void charge(int n) throws IllegalArgumentException {
        if (n < 0 || n > MOST_CHARGE) {
            throw new IllegalArgumentException("a charge is 0 to 99");
        }
        pagesLeft = n;
    }

    public int open() {
        restore();
        return present.size();
    }

    public int state(int what) {
        switch (what) {
            case 0:
                return present.size();
            case 1:
                return present.nodes();
            case 2:
                return freePages();
            case 3:
                return pagesWritten;
            case 4:
                return listing.size();
            case 5:
                return committed.size();
            default:
                return -1;
        }
    }

    public long rank(int id) {
        return rankOf(id);
    }

    private static long rankOf(int id) {
        int h = id;
        for (int round = 0; round < RANK_ROUNDS; round++) {
            h = h * RANK_FACTOR;
            h = h ^ (h >>> 16);
        }
        return h & UNSIGNED_MASK;
    }

    private static void requirePlace(int x, int y, int z) {
        if (!isCoordinate(x) || !isCoordinate(y) || !isCoordinate(z)) {
            throw new IllegalArgumentException("a coordinate is 0 to 15");
        }
    }

    private static boolean isCoordinate(int value) {
        return value >= 0 && value < SIDE;
    }

    private static boolean isDepth(int depth) {
        return depth >= 0 && depth <= DEEPEST;
    }

    private static boolean isCube(int depth, int cx, int cy, int cz) {
        return isDepth(depth) && isCubeIndex(depth, cx) && isCubeIndex(depth, cy) && isCubeIndex(depth, cz);
    }

    private static boolean isCubeIndex(int depth, int index) {
        return index >= 0 && index < 1 << depth;
    }

    private static int cubeIndex(int depth, int coordinate) {
        return coordinate >> (DEEPEST - depth);
    }

    private static boolean isBetween(int end, int value, int otherEnd) {
        return Math.min(end, otherEnd) <= value && value <= Math.max(end, otherEnd);
    }

    private boolean isInBox(int point, int x, int y, int z) {
        return isBetween(cornerX, present.xOf(point), x)
            && isBetween(cornerY, present.yOf(point), y)
            && isBetween(cornerZ, present.zOf(point), z);
    }

    private int findPoint(int id) {
        int point = present.find(id);
        if (point == NONE) {
            throw new NoSuchElementException("there is no point with that id");
        }
        return point;
    }

    private void setCorner(int x, int y, int z) {
        cornerX = x;
        cornerY = y;
        cornerZ = z;
    }

    private int freePages() {
        return PAGES - committed.pages();
    }

    private void writePages(int pages) {
        pagesWritten += pages;
        if (pagesLeft != NO_CHARGE) {
            pagesLeft -= pages;
        }
    }

    /** The pages that the charge was enough for have been written, though nothing needs them. */
    private void losePower() {
        writePages(pagesLeft);
        pagesLeft = NO_CHARGE;
        restore();
    }

    private void restore() {
        present.copyFrom(committed);
        listing.clear();
        setCorner(0, 0, 0);
    }

    /**
     * The points in rows of falling rank: a node's choice hangs on the points of greater rank
     * alone, so each point's depth, and its place in the node that keeps it, follow from the
     * points before it. These two rows are the tree: a node is the points of one depth and cube.
     */
    private static final class Tree {
        private final int[] ids = new int[MOST_POINTS];
        private final int[] xs = new int[MOST_POINTS];
        private final int[] ys = new int[MOST_POINTS];
        private final int[] zs = new int[MOST_POINTS];
        private final int[] colours = new int[MOST_POINTS];
        private final int[] depths = new int[MOST_POINTS];
        private final int[] places = new int[MOST_POINTS];
        private final boolean[] changed = new boolean[MOST_POINTS];
        private int size;

        int size() {
            return size;
        }

        int idOf(int point) {
            return ids[point];
        }

        int xOf(int point) {
            return xs[point];
        }

        int yOf(int point) {
            return ys[point];
        }

        int zOf(int point) {
            return zs[point];
        }

        int colourOf(int point) {
            return colours[point];
        }

        int depthOf(int point) {
            return depths[point];
        }

        void setColour(int point, int colour) {
            colours[point] = colour;
        }

        int find(int id) {
            for (int point = 0; point < size; point++) {
                if (ids[point] == id) {
                    return point;
                }
            }
            return NONE;
        }

        int findKept(int depth, int cx, int cy, int cz, int place) {
            for (int point = 0; point < size; point++) {
                if (places[point] == place && depths[point] == depth && isInCube(point, depth, cx, cy, cz)) {
                    return point;
                }
            }
            return NONE;
        }

        /** For an id that is not here, while there is room; answers where the point stands. */
        int insert(int id, int x, int y, int z, int colour) {
            int point = pointsAbove(rankOf(id));
            moveTail(point, point + 1);
            ids[point] = id;
            xs[point] = x;
            ys[point] = y;
            zs[point] = z;
            colours[point] = colour;
            size++;
            settleFrom(point);
            return point;
        }

        void delete(int point) {
            moveTail(point + 1, point);
            size--;
            settleFrom(point);
        }

        void copyFrom(Tree other) {
            System.arraycopy(other.ids, 0, ids, 0, other.size);
            System.arraycopy(other.xs, 0, xs, 0, other.size);
            System.arraycopy(other.ys, 0, ys, 0, other.size);
            System.arraycopy(other.zs, 0, zs, 0, other.size);
            System.arraycopy(other.colours, 0, colours, 0, other.size);
            System.arraycopy(other.depths, 0, depths, 0, other.size);
            System.arraycopy(other.places, 0, places, 0, other.size);
            size = other.size;
        }

        /** For k from 1 to the size. */
        int idByDistance(int x, int y, int z, int k) {
            long key = Long.MIN_VALUE;
            for (int n = 0; n < k; n++) {
                key = leastKeyAbove(key, x, y, z);
            }
            return (int) key;
        }

        int nodes() {
            int nodes = 0;
            for (int point = 0; point < size; point++) {
                if (places[point] == 0) {
                    nodes++;
                }
            }
            return nodes;
        }

        int pages() {
            int pages = 0;
            for (int point = 0; point < size; point++) {
                if (beginsPage(point)) {
                    pages++;
                }
            }
            return pages;
        }

        /** Notes which points the other tree does not keep alike, and answers how many they are. */
        int markChanges(Tree other) {
            int changes = 0;
            for (int point = 0; point < size; point++) {
                changed[point] = !other.keepsAlike(this, point);
                if (changed[point]) {
                    changes++;
                }
            }
            return changes;
        }

        /** The pages of the nodes that are not clean, once the changes of both trees are marked. */
        int pagesToWrite(Tree before) {
            int pages = 0;
            for (int point = 0; point < size; point++) {
                if (beginsPage(point) && !isNodeClean(point, before)) {
                    pages++;
                }
            }
            return pages;
        }

        private int pointsAbove(long rank) {
            int above = 0;
            for (int point = 0; point < size; point++) {
                if (rankOf(ids[point]) > rank) {
                    above++;
                }
            }
            return above;
        }

        private void moveTail(int from, int to) {
            int length = size - from;
            System.arraycopy(ids, from, ids, to, length);
            System.arraycopy(xs, from, xs, to, length);
            System.arraycopy(ys, from, ys, to, length);
            System.arraycopy(zs, from, zs, to, length);
            System.arraycopy(colours, from, colours, to, length);
        }

        /** Points of greater rank stay where they are: nothing below them moves them. */
        private void settleFrom(int first) {
            for (int point = first; point < size; point++) {
                settle(point);
            }
        }

        private void settle(int point) {
            int depth = 0;
            int place = keptBefore(point, depth);
            while (depth < DEEPEST && place >= POINTS_A_NODE) {
                depth++;
                place = keptBefore(point, depth);
            }
            depths[point] = depth;
            places[point] = place;
        }

        private int keptBefore(int point, int depth) {
            int cx = cubeIndex(depth, xs[point]);
            int cy = cubeIndex(depth, ys[point]);
            int cz = cubeIndex(depth, zs[point]);
            int before = 0;
            for (int other = 0; other < point; other++) {
                if (depths[other] == depth && isInCube(other, depth, cx, cy, cz)) {
                    before++;
                }
            }
            return before;
        }

        private boolean isInCube(int point, int depth, int cx, int cy, int cz) {
            return cubeIndex(depth, xs[point]) == cx
                && cubeIndex(depth, ys[point]) == cy
                && cubeIndex(depth, zs[point]) == cz;
        }

        private boolean beginsPage(int point) {
            return places[point] % POINTS_A_PAGE == 0;
        }

        private boolean keepsAlike(Tree other, int point) {
            int own = find(other.ids[point]);
            return own != NONE
                && xs[own] == other.xs[point]
                && ys[own] == other.ys[point]
                && zs[own] == other.zs[point]
                && colours[own] == other.colours[point]
                && depths[own] == other.depths[point];
        }

        /** A node is clean if both trees keep the very same in its cube from its depth downwards. */
        private boolean isNodeClean(int point, Tree before) {
            int depth = depths[point];
            int cx = cubeIndex(depth, xs[point]);
            int cy = cubeIndex(depth, ys[point]);
            int cz = cubeIndex(depth, zs[point]);
            return !hasChange(depth, cx, cy, cz) && !before.hasChange(depth, cx, cy, cz);
        }

        private boolean hasChange(int depth, int cx, int cy, int cz) {
            for (int point = 0; point < size; point++) {
                if (changed[point] && depths[point] >= depth && isInCube(point, depth, cx, cy, cz)) {
                    return true;
                }
            }
            return false;
        }

        private long leastKeyAbove(long bound, int x, int y, int z) {
            long least = Long.MAX_VALUE;
            for (int point = 0; point < size; point++) {
                long key = distanceKey(point, x, y, z);
                if (key > bound && key < least) {
                    least = key;
                }
            }
            return least;
        }

        /** Keys rise by distance and then by id; the low half of a key is the id again. */
        private long distanceKey(int point, int x, int y, int z) {
            int dx = xs[point] - x;
            int dy = ys[point] - y;
            int dz = zs[point] - z;
            return (dx * dx + dy * dy + dz * dz) * DISTANCE_UNIT + ids[point];
        }
    }

    /** Ids, rising; those before the first one left have been taken. */
    private static final class Listing {
        private final int[] ids = new int[MOST_POINTS];
        private int first;
        private int end;

        int size() {
            return end - first;
        }

        void clear() {
            first = 0;
            end = 0;
        }

        /** Between a clear and the first id taken, for no more ids than a tree has points. */
        void insert(int id) {
            int at = end;
            while (at > 0 && ids[at - 1] > id) {
                ids[at] = ids[at - 1];
                at--;
            }
            ids[at] = id;
            end++;
        }

        int takeFirst() {
            if (first >= end) {
                throw new NoSuchElementException("the listing is empty");
            }
            int id = ids[first];
            first++;
            return id;
        }
    }
}
