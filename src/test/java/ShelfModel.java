import java.util.ArrayList;
import java.util.HashMap;
import java.util.HashSet;
import java.util.List;
import java.util.Map;
import java.util.NoSuchElementException;
import java.util.Set;
import java.util.TreeMap;

/**
 * The document's terms read word by word, without regard to speed: whole trees are made anew from
 * the set of points, a node's cleanness is asked of all nodes in its cube, and pages have numbers.
 */
final class ShelfModel {
    record Point(int id, int x, int y, int z, int colour) {
        boolean isIn(Cube cube) {
            int shift = 4 - cube.depth();
            return x >> shift == cube.cx() && y >> shift == cube.cy() && z >> shift == cube.cz();
        }
    }

    record Cube(int depth, int cx, int cy, int cz) {
        boolean contains(Cube other) {
            int shift = other.depth - depth;
            return shift > 0 && other.cx >> shift == cx && other.cy >> shift == cy && other.cz >> shift == cz;
        }
    }

    private TreeMap<Integer, Point> points = new TreeMap<>();
    private TreeMap<Integer, Point> committed = new TreeMap<>();
    /** The pages that each committed node takes. */
    private Map<Cube, Set<Integer>> taken = new HashMap<>();
    private List<Integer> listing = new ArrayList<>();
    private int[] corner = new int[3];
    private Integer chargeLeft = null;
    private int written = 0;

    static long rank(int id) {
        long h = id & 0xFFFFFFFFL;
        for (int i = 0; i < 3; i++) {
            h = h * 0x9E3779B1L % 4294967296L;
            if (h < 0) {
                h += 4294967296L;
            }
            h = h ^ (h / 65536);
        }
        return h;
    }

    int add(int id, int x, int y, int z, int colour) {
        needPlace(x, y, z);
        if (points.containsKey(id) || points.size() == 48) {
            throw new IllegalStateException();
        }
        points.put(id, new Point(id, x, y, z, colour));
        return depthOf(points.get(id));
    }

    int remove(int id) {
        int depth = depthOf(need(id));
        points.remove(id);
        return depth;
    }

    int recolour(int id, int colour) {
        Point old = need(id);
        points.put(id, new Point(id, old.x, old.y, old.z, colour));
        return old.colour;
    }

    int field(int id, int f) {
        if (f < 0 || f > 4) {
            throw new IllegalArgumentException();
        }
        Point point = need(id);
        int[] all = {point.x, point.y, point.z, point.colour, depthOf(point)};
        return all[f];
    }

    void corner(int x, int y, int z) {
        needPlace(x, y, z);
        corner = new int[] {x, y, z};
    }

    int box(int x, int y, int z, int depth) {
        needPlace(x, y, z);
        if (depth < 0 || depth > 4) {
            throw new IllegalArgumentException();
        }
        List<Integer> found = new ArrayList<>();
        for (Point point : boxed(x, y, z)) {
            if (depthOf(point) <= depth) {
                found.add(point.id);
            }
        }
        listing = found;
        return found.size();
    }

    int next() {
        if (listing.isEmpty()) {
            throw new NoSuchElementException();
        }
        return listing.remove(0);
    }

    int count(int x, int y, int z) {
        needPlace(x, y, z);
        return boxed(x, y, z).size();
    }

    int nearest(int x, int y, int z, int k) {
        needPlace(x, y, z);
        if (k < 1) {
            throw new IllegalArgumentException();
        }
        if (k > points.size()) {
            throw new NoSuchElementException();
        }
        List<Point> all = new ArrayList<>(points.values());
        // The sort is stable and the values come by rising ids.
        all.sort((a, b) -> Integer.compare(distance(a, x, y, z), distance(b, x, y, z)));
        return all.get(k - 1).id;
    }

    int kept(int depth, int cx, int cy, int cz, int i) {
        if (depth < 0 || depth > 4) {
            throw new IllegalArgumentException();
        }
        int side = 1 << depth;
        if (cx < 0 || cx >= side || cy < 0 || cy >= side || cz < 0 || cz >= side) {
            throw new IllegalArgumentException();
        }
        List<Point> node = tree(points).get(new Cube(depth, cx, cy, cz));
        if (node == null || i < 0 || i >= node.size()) {
            throw new NoSuchElementException();
        }
        return node.get(i).id;
    }

    int commit() {
        Map<Cube, List<Point>> now = tree(points);
        Map<Cube, List<Point>> before = tree(committed);
        boolean same = before.keySet().equals(now.keySet());
        List<Cube> dirty = new ArrayList<>();
        for (Cube cube : now.keySet()) {
            if (!isClean(cube, now, before)) {
                dirty.add(cube);
            }
        }
        if (same && dirty.isEmpty()) {
            return 0;
        }
        List<Integer> free = freePages();
        Map<Cube, Set<Integer>> next = new HashMap<>(taken);
        next.keySet().retainAll(now.keySet());
        int pages = 0;
        for (Cube cube : dirty) {
            Set<Integer> own = new HashSet<>();
            for (int p = 0; p < pagesOf(now.get(cube)); p++) {
                if (pages == free.size()) {
                    throw new IllegalStateException();
                }
                own.add(free.get(pages++));
            }
            next.put(cube, own);
        }
        pages++;
        for (int p = 0; p < pages; p++) {
            if (chargeLeft != null && chargeLeft - p == 0) {
                written += p;
                open();
                chargeLeft = null;
                throw new UnsupportedOperationException();
            }
        }
        written += pages;
        chargeLeft = chargeLeft == null ? null : Integer.valueOf(chargeLeft - pages);
        taken = next;
        committed = new TreeMap<>(points);
        return pages;
    }

    void charge(int n) {
        if (n < 0 || n > 99) {
            throw new IllegalArgumentException();
        }
        chargeLeft = n;
    }

    int open() {
        points = new TreeMap<>(committed);
        listing = new ArrayList<>();
        corner = new int[3];
        return points.size();
    }

    int state(int what) {
        return switch (what) {
            case 0 -> points.size();
            case 1 -> tree(points).size();
            case 2 -> freePages().size();
            case 3 -> written;
            case 4 -> listing.size();
            case 5 -> committed.size();
            default -> -1;
        };
    }

    /** Ids of the points, for tests that want one that is there. */
    List<Integer> ids() {
        return new ArrayList<>(points.keySet());
    }

    private static Map<Cube, List<Point>> tree(TreeMap<Integer, Point> set) {
        Map<Cube, List<Point>> nodes = new HashMap<>();
        List<Point> all = new ArrayList<>(set.values());
        all.sort((a, b) -> Long.compare(rank(b.id), rank(a.id)));
        grow(new Cube(0, 0, 0, 0), all, nodes);
        return nodes;
    }

    /** Gives the cube's node the first of the points left in the cube, and the rest to the eight cubes in it. */
    private static void grow(Cube cube, List<Point> left, Map<Cube, List<Point>> nodes) {
        if (left.isEmpty()) {
            return;
        }
        int most = cube.depth == 4 ? left.size() : Math.min(3, left.size());
        nodes.put(cube, new ArrayList<>(left.subList(0, most)));
        List<Point> rest = left.subList(most, left.size());
        for (int octant = 0; octant < 8 && !rest.isEmpty(); octant++) {
            Cube child = new Cube(cube.depth + 1, cube.cx * 2 + octant % 2,
                cube.cy * 2 + octant / 2 % 2, cube.cz * 2 + octant / 4);
            List<Point> inside = new ArrayList<>();
            for (Point point : rest) {
                if (point.isIn(child)) {
                    inside.add(point);
                }
            }
            grow(child, inside, nodes);
        }
    }

    private static boolean isClean(Cube cube, Map<Cube, List<Point>> now,
            Map<Cube, List<Point>> before) {
        if (!now.get(cube).equals(before.get(cube))) {
            return false;
        }
        for (Cube other : before.keySet()) {
            if (cube.contains(other) && !now.containsKey(other)) {
                return false;
            }
        }
        for (Cube other : now.keySet()) {
            if (cube.contains(other) && !isClean(other, now, before)) {
                return false;
            }
        }
        return true;
    }

    private static int pagesOf(List<Point> node) {
        return node.size() / 6 + (node.size() % 6 == 0 ? 0 : 1);
    }

    private List<Integer> freePages() {
        List<Integer> free = new ArrayList<>();
        for (int page = 0; page < 64; page++) {
            free.add(page);
        }
        for (Set<Integer> own : taken.values()) {
            for (Integer page : own) {
                if (!free.remove(page)) {
                    throw new AssertionError("a page is taken twice");
                }
            }
        }
        return free;
    }

    private int depthOf(Point point) {
        for (Map.Entry<Cube, List<Point>> node : tree(points).entrySet()) {
            if (node.getValue().contains(point)) {
                return node.getKey().depth;
            }
        }
        throw new AssertionError("a point that no node keeps");
    }

    private Point need(int id) {
        Point point = points.get(id);
        if (point == null) {
            throw new NoSuchElementException();
        }
        return point;
    }

    private List<Point> boxed(int x, int y, int z) {
        List<Point> found = new ArrayList<>();
        for (Point point : points.values()) {
            boolean left = corner[0] <= x ? corner[0] <= point.x && point.x <= x : x <= point.x && point.x <= corner[0];
            boolean low = corner[1] <= y ? corner[1] <= point.y && point.y <= y : y <= point.y && point.y <= corner[1];
            boolean near = corner[2] <= z ? corner[2] <= point.z && point.z <= z : z <= point.z && point.z <= corner[2];
            if (left && low && near) {
                found.add(point);
            }
        }
        return found;
    }

    private static int distance(Point point, int x, int y, int z) {
        return (point.x - x) * (point.x - x) + (point.y - y) * (point.y - y) + (point.z - z) * (point.z - z);
    }

    private static void needPlace(int x, int y, int z) {
        for (int value : new int[] {x, y, z}) {
            if (value < 0 || value > 15) {
                throw new IllegalArgumentException();
            }
        }
    }
}
