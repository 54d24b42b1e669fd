import java.util.ArrayList;
import java.util.Comparator;
import java.util.List;

/** The sentences of "What it is", each with a test of its own. */
public final class WhatItIsTest {
    private static final Class<IllegalStateException> STATE = IllegalStateException.class;
    private static final Class<UnsupportedOperationException> POWER = UnsupportedOperationException.class;

    /** A point as the tree gives it to one who asks for the nodes. */
    record Kept(int id, int depth, int[] place) {
    }

    private static final Check CHECK = new Check();

    public static void main(String[] args) {
        treeHangsOnSetAlone();
        coarseViewsShowGreatestRanks();
        foundThroughTree();
        writesOnlyChanges();
        cutLeavesLastCommit();
        usedFor512Calls();
        CHECK.end("WhatItIsTest");
    }

    private static void treeHangsOnSetAlone() {
        sentence("a tree of cubes that hangs on the set of the points alone, in whatever order they came and went");
        PointShelf falling = Shelves.column(48, 5, 5, 5);
        PointShelf rising = new PointShelf();
        for (int i = 47; i >= 0; i--) {
            due("the greatest rank so far", 0, rising.add(Shelves.top(i), 5, 5, 5, i));
        }
        for (int i = 0; i < 48; i++) {
            due("depth of " + i, falling.field(Shelves.top(i), 4), rising.field(Shelves.top(i), 4));
        }
        for (int i = 0; i < 48; i += 2) {
            rising.remove(Shelves.top(i));
        }
        for (int i = 46; i >= 0; i -= 2) {
            int before = i / 2;
            due("came back behind " + before, Math.min(before / 3, 4), rising.add(Shelves.top(i), 5, 5, 5, i));
        }
        due("and so to the same nodes", falling.state(1), rising.state(1));
        for (int gone = 0; gone < 48; gone++) {
            dueSameWithout(gone);
        }
    }

    /** A wide tree that one went from, beside one that it never came to. */
    private static void dueSameWithout(int gone) {
        PointShelf left = Shelves.wide();
        left.remove(Shelves.top(gone));
        PointShelf never = new PointShelf();
        for (int i = 47; i >= 0; i--) {
            int[] place = WideTree.places().get(i);
            if (i != gone) {
                never.add(Shelves.top(i), place[0], place[1], place[2], 0);
            }
        }
        due("nodes without " + gone, never.state(1), left.state(1));
        for (int i = 0; i < 48; i++) {
            if (i != gone) {
                int id = Shelves.top(i);
                due("depth of " + i + " without " + gone, never.field(id, 4), left.field(id, 4));
            }
        }
    }

    private static void usedFor512Calls() {
        sentence("An object is used for at most 512 calls after it has been made");
        PointShelf commits = new PointShelf();
        commits.add(1, 2, 3, 4, 0);
        for (int n = 1; n <= 255; n++) {
            commits.recolour(1, n);
            due("commit as call " + (2 * n + 1), 2, commits.commit());
        }
        due("the 512th call", 510, commits.state(3));
        PointShelf moves = new PointShelf();
        for (int n = 0; n < 255; n++) {
            due("add as call " + (2 * n + 1), 0, moves.add(n, 1, 1, 1, 1));
            due("remove as call " + (2 * n + 2), 0, moves.remove(n));
        }
        due("the 511th call", 0, moves.add(-1, 15, 15, 15, 0));
        dueThrow("the 512th call", STATE, () -> moves.add(-1, 15, 15, 15, 0));
        PointShelf boxes = Shelves.column(48, 7, 7, 7);
        for (int n = 49; n < 511; n += 2) {
            due("box as call " + n, 48, boxes.box(15, 15, 15, 4));
            due("next as call " + (n + 1), leastTop(), boxes.next());
        }
        due("box as call 511", 48, boxes.box(7, 7, 7, 4));
        due("the 512th call", leastTop(), boxes.next());
    }

    private static int leastTop() {
        int least = Integer.MAX_VALUE;
        for (int i = 0; i < 48; i++) {
            least = Math.min(least, Shelves.top(i));
        }
        return least;
    }

    private static void coarseViewsShowGreatestRanks() {
        sentence("coarse views show the points of greatest rank");
        PointShelf column = Shelves.column(48, 3, 3, 3);
        PointShelf wide = Shelves.wide();
        for (int depth = 0; depth <= 4; depth++) {
            int shown = depth == 4 ? 48 : 3 * (depth + 1);
            dueListed("a column to depth " + depth, column, depth, tops(shown));
        }
        dueListed("a wide tree to depth 0", wide, 0, tops(3));
        dueListed("a wide tree to depth 1", wide, 1, tops(19));
        dueListed("a wide tree to depth 2", wide, 2, tops(48));
        wide.remove(Shelves.top(1));
        List<Integer> left = tops(4);
        left.remove(Integer.valueOf(Shelves.top(1)));
        dueListed("the greatest that are left", wide, 0, left);
    }

    private static List<Integer> tops(int n) {
        List<Integer> ids = new ArrayList<>();
        for (int i = 0; i < n; i++) {
            ids.add(Shelves.top(i));
        }
        return ids;
    }

    private static void foundThroughTree() {
        sentence("boxes and nearest points are found through the tree");
        PointShelf shelf = Shelves.wide();
        List<Kept> tree = new ArrayList<>();
        walk(shelf, 0, 0, 0, 0, tree);
        due("the nodes keep all points", 48, tree.size());
        for (int depth = 0; depth <= 2; depth++) {
            List<Integer> ids = new ArrayList<>();
            for (Kept kept : tree) {
                if (kept.depth <= depth && kept.place[0] <= 7 && kept.place[2] <= 4) {
                    ids.add(kept.id);
                }
            }
            due("box to depth " + depth, ids.size(), shelf.box(7, 15, 4, depth));
            dueTaken("box to depth " + depth, shelf, ids);
        }
        tree.sort(Comparator.comparingInt((Kept kept) -> distance(kept.place, 9, 2, 5)).thenComparingInt(Kept::id));
        for (int k = 1; k <= 48; k++) {
            due("nearest by place " + k, tree.get(k - 1).id, shelf.nearest(9, 2, 5, k));
        }
    }

    /** Gathers what the nodes keep; only below one that keeps three can there be others. */
    private static void walk(PointShelf shelf, int depth, int cx, int cy, int cz, List<Kept> tree) {
        int found = 0;
        for (String id = keptAt(shelf, depth, cx, cy, cz, 0); !id.equals("NoSuchElementException");
                id = keptAt(shelf, depth, cx, cy, cz, found)) {
            tree.add(keptPoint(shelf, Integer.parseInt(id), depth));
            found++;
        }
        for (int octant = 0; octant < 8 && found == 3 && depth < 4; octant++) {
            walk(shelf, depth + 1, 2 * cx + octant % 2, 2 * cy + octant / 2 % 2, 2 * cz + octant / 4, tree);
        }
    }

    private static String keptAt(PointShelf shelf, int depth, int cx, int cy, int cz, int i) {
        return Check.outcome(() -> shelf.kept(depth, cx, cy, cz, i));
    }

    private static Kept keptPoint(PointShelf shelf, int id, int depth) {
        return new Kept(id, depth, new int[] {shelf.field(id, 0), shelf.field(id, 1), shelf.field(id, 2)});
    }

    private static int distance(int[] place, int x, int y, int z) {
        int dx = place[0] - x;
        int dy = place[1] - y;
        int dz = place[2] - z;
        return dx * dx + dy * dy + dz * dz;
    }

    private static void writesOnlyChanges() {
        sentence("a commit writes only what has changed");
        PointShelf shelf = Shelves.wide();
        due("all that came", 39, shelf.commit());
        due("nothing", 0, shelf.commit());
        shelf.recolour(Shelves.top(47), 1);
        due("a node of depth 2, the two around it, the root", 4, shelf.commit());
        shelf.recolour(Shelves.top(18), 1);
        due("a node of depth 1, the one around it, the root", 3, shelf.commit());
        shelf.recolour(Shelves.top(0), 1);
        due("the node of depth 0, the root", 2, shelf.commit());
        shelf.remove(Shelves.top(47));
        due("the two around the one that went, the root", 3, shelf.commit());
        shelf.add(Shelves.top(47), 15, 15, 15, 0);
        due("the node that it came to, the one around it, the root", 3, shelf.commit());
        due("in all", 54, shelf.state(3));
    }

    private static void cutLeavesLastCommit() {
        sentence("to pages that nothing needs, so that a cut leaves the last one");
        for (int written = 0; written <= 26; written++) {
            PointShelf shelf = Shelves.wide();
            shelf.commit();
            Shelves.spoil(shelf, 26, 1);
            shelf.charge(written);
            dueThrow("cut behind " + written + " of 27 pages", POWER, shelf::commit);
            dueWideAsAtFirst("cut behind " + written, shelf);
            Shelves.spoil(shelf, 26, 2);
            due("all 26 pages can be written again", 27, shelf.commit());
        }
    }

    private static void dueWideAsAtFirst(String what, PointShelf shelf) {
        PointShelf first = Shelves.wide();
        due(what + ": points", 48, shelf.state(0));
        due(what + ": pages free", 26, shelf.state(2));
        for (int i = 0; i < 48; i++) {
            int id = Shelves.top(i);
            for (int f = 0; f <= 4; f++) {
                due(what + ": field " + f + " of " + i, first.field(id, f), shelf.field(id, f));
            }
        }
    }

    /** All that the shelf has to that depth, by a box from corner 0, 0, 0. */
    private static void dueListed(String what, PointShelf shelf, int depth, List<Integer> ids) {
        due(what, ids.size(), shelf.box(15, 15, 15, depth));
        dueTaken(what, shelf, ids);
    }

    private static void dueTaken(String what, PointShelf shelf, List<Integer> ids) {
        ids.sort(null);
        for (int id : ids) {
            CHECK.due(what, "" + id, Check.outcome(shelf::next));
        }
    }

    private static void sentence(String words) {
        CHECK.sentence(words);
    }

    private static void due(String what, long want, long got) {
        CHECK.due(what, want, got);
    }

    private static void dueThrow(String what, Class<? extends RuntimeException> want, Check.Deed deed) {
        CHECK.dueThrow(what, want, deed);
    }
}
