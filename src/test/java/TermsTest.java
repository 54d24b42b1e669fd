import java.math.BigInteger;
import java.util.NoSuchElementException;
import java.util.function.Supplier;

/** The sentences of "Terms", each with a test of its own. */
public final class TermsTest {
    private static final Class<IllegalArgumentException> ARGUMENT = IllegalArgumentException.class;
    private static final Class<IllegalStateException> STATE = IllegalStateException.class;
    private static final Class<NoSuchElementException> NONE = NoSuchElementException.class;
    private static final Class<UnsupportedOperationException> POWER = UnsupportedOperationException.class;
    private static final int LEAST = Integer.MIN_VALUE;
    private static final int MOST = Integer.MAX_VALUE;

    private static final Check CHECK = new Check();

    public static void main(String[] args) {
        anyId();
        noTwoIdsTheSame();
        coordinates();
        anyColour();
        atMost48();
        rankWraps();
        rankWithoutSign();
        noTwoIdsHaveOneRank();
        cubesOfDepths();
        cubeHasItsPoints();
        nodeKeepsThree();
        nodeKeepsGreatestRanks();
        largerCubesFirst();
        deepestKeepsAll();
        nodeIsThere();
        depthOfPoint();
        treeAreNodesThere();
        boxEndsIncluded();
        cornerAtFirst();
        cornerOnAnySide();
        distance();
        listingRises();
        listingEmptyAtFirst();
        listingIsFixed();
        pagesAre64();
        committedWithoutPointsAtFirst();
        begunPagesCount();
        cleanHasCommittedNode();
        cleanKeepsSameIds();
        cleanKeepsSameCoordinates();
        cleanKeepsSameColours();
        cleanHasNoOtherNodes();
        cleanHasCleanNodes();
        nothingWrittenIfSame();
        noNodesLeft();
        onlyUncleanNodesWritten();
        pagesThatCommittedTreeDoesNotTake();
        rootIsNoneOf64();
        presentIsCommitted();
        rootIsOneOfCharge();
        pageBehindChargeNotWritten();
        allAsAfterOpen();
        noChargeAnyMore();
        CHECK.end("TermsTest");
    }

    private static void anyId() {
        sentence("an ID (any int");
        PointShelf shelf = new PointShelf();
        int[] ids = {LEAST, LEAST + 1, -1, 0, 1, MOST - 1, MOST};
        for (int i = 0; i < ids.length; i++) {
            shelf.add(ids[i], i, 0, 0, i);
        }
        due("all came", ids.length, shelf.state(0));
        for (int i = 0; i < ids.length; i++) {
            due("x of " + ids[i], i, shelf.field(ids[i], 0));
            due("nearest is " + ids[i], ids[i], shelf.nearest(i, 0, 0, 1));
            due("colour of " + ids[i], i, shelf.recolour(ids[i], -i));
        }
        due("a box has all", ids.length, shelf.box(15, 0, 0, 4));
        for (int id : ids) {
            due("listed", id, shelf.next());
        }
        for (int id : ids) {
            shelf.remove(id);
        }
        due("all went", 0, shelf.state(0));
    }

    private static void noTwoIdsTheSame() {
        sentence("no two points the same");
        PointShelf shelf = new PointShelf();
        shelf.add(7, 1, 2, 3, 4);
        dueThrow("the same point", STATE, () -> shelf.add(7, 1, 2, 3, 4));
        dueThrow("the same id elsewhere", STATE, () -> shelf.add(7, 9, 9, 9, 9));
        due("another id at the same place with the same colour", 0, shelf.add(8, 1, 2, 3, 4));
        due("two points", 2, shelf.count(15, 15, 15));
    }

    private static void coordinates() {
        sentence("three COORDINATES x, y, z, each 0 .. 15");
        PointShelf shelf = new PointShelf();
        for (int value = 0; value <= 15; value++) {
            shelf.add(value, value, 0, 15, 0);
            shelf.add(16 + value, 15, value, 0, 0);
            shelf.add(32 + value, 0, 15, value, 0);
        }
        for (int value = 0; value <= 15; value++) {
            due("x", value, shelf.field(value, 0));
            due("y", value, shelf.field(16 + value, 1));
            due("z", value, shelf.field(32 + value, 2));
        }
        PointShelf empty = new PointShelf();
        for (int wrong : new int[] {-1, 16, -16, 31, LEAST, MOST}) {
            dueThrow("x " + wrong, ARGUMENT, () -> empty.add(1, wrong, 0, 0, 0));
            dueThrow("y " + wrong, ARGUMENT, () -> empty.add(1, 0, wrong, 0, 0));
            dueThrow("z " + wrong, ARGUMENT, () -> empty.add(1, 0, 0, wrong, 0));
        }
        due("none came", 0, empty.state(0));
    }

    private static void anyColour() {
        sentence("a COLOUR (any int)");
        PointShelf shelf = new PointShelf();
        int[] colours = {LEAST, -1, 0, 1, MOST};
        for (int colour : colours) {
            shelf.add(colour, 0, 0, 0, colour);
        }
        for (int colour : colours) {
            due("as it came", colour, shelf.field(colour, 3));
            due("recoloured", colour, shelf.recolour(colour, ~colour));
            due("as it is now", ~colour, shelf.field(colour, 3));
        }
        shelf.commit();
        due("committed", 5, shelf.open());
        for (int colour : colours) {
            due("after open", ~colour, shelf.field(colour, 3));
        }
    }

    private static void atMost48() {
        sentence("There are at most 48.");
        PointShelf shelf = Shelves.column(47, 0, 0, 0);
        due("the 48th", 4, shelf.add(Shelves.top(47), 0, 0, 0, 0));
        dueThrow("the 49th", STATE, () -> shelf.add(Shelves.top(48), 0, 0, 0, 0));
        dueThrow("the 49th, of a rank between", STATE, () -> shelf.add(Shelves.below(0), 15, 15, 15, 0));
        due("48", 48, shelf.state(0));
        shelf.remove(Shelves.top(0));
        due("room again", 0, shelf.add(Shelves.below(0), 15, 15, 15, 0));
        dueThrow("and no more", STATE, () -> shelf.add(Shelves.top(0), 0, 0, 0, 0));
        shelf.commit();
        shelf.remove(Shelves.top(1));
        due("48 after open", 48, shelf.open());
        dueThrow("none more after open", STATE, () -> shelf.add(Shelves.top(0), 0, 0, 0, 0));
    }

    private static void rankWraps() {
        sentence("h = id, then three times h = h * 0x9E3779B1 (wrapping) and h = h xor (h >>> 16)");
        PointShelf shelf = new PointShelf();
        for (int id : new int[] {0, 1, 2, -1, -2, LEAST, MOST, 0x9E3779B1, 65535, 65536}) {
            due("rank of " + id, slowRank(id), shelf.rank(id));
        }
    }

    /** In whole numbers: multiply, keep what is below 2^32, and xor with the upper half of it. */
    private static long slowRank(int id) {
        BigInteger size = BigInteger.ONE.shiftLeft(32);
        BigInteger h = BigInteger.valueOf(id).mod(size);
        for (int i = 0; i < 3; i++) {
            h = h.multiply(BigInteger.valueOf(2654435761L)).mod(size);
            h = h.xor(h.shiftRight(16));
        }
        return h.longValueExact();
    }

    private static void rankWithoutSign() {
        sentence("the rank is h as a number without sign, 0 .. 2^32 - 1");
        PointShelf shelf = new PointShelf();
        long[] ranks = {0, 1, (1L << 31) - 1, 1L << 31, (1L << 31) + 1, (1L << 32) - 2, (1L << 32) - 1};
        for (long rank : ranks) {
            due("the id of rank " + rank, rank, shelf.rank(Shelves.idOfRank(rank)));
        }
        for (int i = 0; i < ranks.length; i++) {
            shelf.add(Shelves.idOfRank(ranks[i]), 0, 0, 0, i);
        }
        for (int i = 0; i < ranks.length; i++) {
            int place = ranks.length - 1 - i;
            due("depth by rank " + ranks[i], place / 3, shelf.field(Shelves.idOfRank(ranks[i]), 4));
            due("kept by rank", Shelves.idOfRank(ranks[i]), shelf.kept(place / 3, 0, 0, 0, place % 3));
        }
    }

    private static void noTwoIdsHaveOneRank() {
        sentence("(No two ids have one rank.)");
        PointShelf shelf = new PointShelf();
        for (int n = -255; n <= 256; n++) {
            due("the only id of that rank", n, Shelves.idOfRank(shelf.rank(n)));
        }
        PointShelf far = new PointShelf();
        for (int n = -255; n <= 256; n++) {
            int id = n * 8388607 + MOST;
            due("the only id of that rank", id, Shelves.idOfRank(far.rank(id)));
        }
    }

    private static void cubesOfDepths() {
        sentence("A CUBE of DEPTH d, 0 .. 4, at the place cx, cy, cz, each 0 .. 2^d - 1");
        PointShelf shelf = new PointShelf();
        for (int depth = 0; depth <= 4; depth++) {
            int d = depth;
            int last = (1 << depth) - 1;
            dueThrow("the first cube", NONE, () -> shelf.kept(d, 0, 0, 0, 0));
            dueThrow("the last cube", NONE, () -> shelf.kept(d, last, last, last, 0));
            for (int wrong : new int[] {-1, last + 1, LEAST, MOST}) {
                dueThrow("cx " + wrong, ARGUMENT, () -> shelf.kept(d, wrong, 0, 0, 0));
                dueThrow("cy " + wrong, ARGUMENT, () -> shelf.kept(d, 0, wrong, 0, 0));
                dueThrow("cz " + wrong, ARGUMENT, () -> shelf.kept(d, 0, 0, wrong, 0));
            }
        }
        for (int wrong : new int[] {-1, 5, 31, 32, 36, LEAST, MOST}) {
            dueThrow("depth " + wrong, ARGUMENT, () -> shelf.kept(wrong, 0, 0, 0, 0));
        }
    }

    private static void cubeHasItsPoints() {
        sentence("has the points whose coordinates, each shifted right by 4 - d bits, are these three");
        for (int value = 0; value <= 15; value++) {
            for (int axis = 0; axis < 3; axis++) {
                int x = axis == 0 ? value : 0;
                int y = axis == 1 ? value : 0;
                int z = axis == 2 ? value : 0;
                dueOnlyCubesAround(Shelves.column(13, x, y, z), axis, value);
            }
        }
    }

    private static void dueOnlyCubesAround(PointShelf shelf, int axis, int value) {
        for (int depth = 0; depth <= 4; depth++) {
            int d = depth;
            for (int cube = 0; cube < 1 << depth; cube++) {
                int cx = axis == 0 ? cube : 0;
                int cy = axis == 1 ? cube : 0;
                int cz = axis == 2 ? cube : 0;
                boolean around = cube == value >> (4 - depth);
                String want = around ? "" + Shelves.top(3 * depth) : "NoSuchElementException";
                CHECK.due("kept(" + d + ", " + cx + ", " + cy + ", " + cz + ", 0)", want,
                    Check.outcome(() -> shelf.kept(d, cx, cy, cz, 0)));
            }
        }
    }

    private static void nodeKeepsThree() {
        sentence("the three of greatest rank, or all if there are no more");
        for (int points = 0; points <= 13; points++) {
            PointShelf shelf = Shelves.column(points, 8, 8, 8);
            for (int depth = 0; depth <= 3; depth++) {
                int d = depth;
                int cube = 8 >> (4 - depth);
                int most = Math.max(0, Math.min(3, points - 3 * depth));
                for (int i = 0; i < most; i++) {
                    due("kept of " + points, Shelves.top(3 * d + i), shelf.kept(d, cube, cube, cube, i));
                }
                dueThrow("no more of " + points, NONE, () -> shelf.kept(d, cube, cube, cube, most));
            }
        }
    }

    private static void nodeKeepsGreatestRanks() {
        sentence("the three of greatest rank");
        PointShelf shelf = new PointShelf();
        for (int i = 3; i >= 1; i--) {
            shelf.add(Shelves.top(i), 0, 0, 0, 0);
        }
        due("one just below the third", 1, shelf.add(Shelves.below(3), 0, 0, 0, 0));
        shelf.remove(Shelves.below(3));
        due("one just above the third", 0, shelf.add(Shelves.below(2), 0, 0, 0, 0));
        due("the third goes down", 1, shelf.field(Shelves.top(3), 4));
        due("one above all", 0, shelf.add(Shelves.top(0), 15, 15, 15, 0));
        due("the third goes down again", 1, shelf.field(Shelves.below(2), 4));
        due("the second stays", 0, shelf.field(Shelves.top(2), 4));
    }

    private static void largerCubesFirst() {
        sentence("of those of its points that no node of a larger cube around it keeps");
        PointShelf shelf = new PointShelf();
        for (int i = 0; i < 3; i++) {
            shelf.add(Shelves.top(i), 15, 15, 15, 0);
        }
        for (int i = 3; i < 7; i++) {
            due("an empty cube, but the one around it is full", i < 6 ? 1 : 2, shelf.add(Shelves.top(i), 0, 0, 0, 0));
        }
        dueThrow("the cube of those at the top keeps none", NONE, () -> shelf.kept(1, 1, 1, 1, 0));
        shelf.remove(Shelves.top(0));
        due("the greatest rank in the cube goes up", 0, shelf.field(Shelves.top(3), 4));
        due("and the next one follows it", 1, shelf.field(Shelves.top(6), 4));
    }

    private static void deepestKeepsAll() {
        sentence("at depth 4 always all");
        for (int points = 12; points <= 48; points++) {
            PointShelf shelf = Shelves.column(points, 5, 10, 15);
            int most = points - 12;
            if (most > 0) {
                due("the first of " + points, Shelves.top(12), shelf.kept(4, 5, 10, 15, 0));
                due("the last of " + points, Shelves.top(points - 1), shelf.kept(4, 5, 10, 15, most - 1));
                due("its depth", 4, shelf.field(Shelves.top(points - 1), 4));
            }
            dueThrow("no more of " + points, NONE, () -> shelf.kept(4, 5, 10, 15, most));
        }
    }

    private static void nodeIsThere() {
        sentence("A node is THERE if it keeps a point.");
        PointShelf shelf = new PointShelf();
        due("no node without points", 0, shelf.state(1));
        int[] nodes = {1, 1, 1, 2, 2, 2, 3, 3, 3, 4, 4, 4, 5, 5, 5};
        for (int i = 0; i < nodes.length; i++) {
            shelf.add(Shelves.top(i), 0, 0, 0, 0);
            due("nodes of " + (i + 1), nodes[i], shelf.state(1));
        }
        for (int i = nodes.length - 1; i > 0; i--) {
            shelf.remove(Shelves.top(i));
            due("nodes of " + i, nodes[i - 1], shelf.state(1));
        }
        shelf.remove(Shelves.top(0));
        due("no node any more", 0, shelf.state(1));
    }

    private static void depthOfPoint() {
        sentence("The DEPTH of a point is that of the cube whose node keeps it.");
        PointShelf wide = Shelves.wide();
        for (int i = 0; i < 48; i++) {
            int[] place = WideTree.places().get(i);
            dueKeptAtItsDepthAlone(wide, i, place[0], place[1], place[2]);
        }
        PointShelf column = Shelves.column(15, 6, 9, 13);
        for (int i = 0; i < 15; i++) {
            dueKeptAtItsDepthAlone(column, i, 6, 9, 13);
        }
    }

    /** On shelves whose nodes keep three points at most. */
    private static void dueKeptAtItsDepthAlone(PointShelf shelf, int i, int x, int y, int z) {
        int depth = shelf.field(Shelves.top(i), 4);
        for (int d = Math.max(0, depth - 1); d <= Math.min(4, depth + 1); d++) {
            int shift = 4 - d;
            boolean found = false;
            for (int place = 0; place < 3 && !found; place++) {
                int at = place;
                int cubeDepth = d;
                found = Check.outcome(() -> shelf.kept(cubeDepth, x >> shift, y >> shift, z >> shift, at))
                    .equals("" + Shelves.top(i));
            }
            due(i + " is kept at depth " + d, d == depth ? 1 : 0, found ? 1 : 0);
        }
    }

    private static void treeAreNodesThere() {
        sentence("The TREE are the nodes that are there.");
        due("of a wide tree", 38, cubesThatKeep(Shelves::wide));
        due("as it says itself", 38, Shelves.wide().state(1));
        due("of a column", 5, cubesThatKeep(() -> Shelves.column(48, 15, 0, 8)));
        due("as it says itself", 5, Shelves.column(48, 15, 0, 8).state(1));
        due("of an empty shelf", 0, cubesThatKeep(PointShelf::new));
    }

    /** Asks for every cube there can be; an object answers 512 calls, so each slice of a depth gets a shelf anew. */
    private static int cubesThatKeep(Supplier<PointShelf> shelves) {
        int found = 0;
        for (int depth = 0; depth <= 4; depth++) {
            int d = depth;
            for (int cx = 0; cx < 1 << depth; cx++) {
                PointShelf shelf = shelves.get();
                int x = cx;
                for (int at = 0; at < 1 << 2 * depth; at++) {
                    int y = at >> depth;
                    int z = at & (1 << depth) - 1;
                    String kept = Check.outcome(() -> shelf.kept(d, x, y, z, 0));
                    found += kept.equals("NoSuchElementException") ? 0 : 1;
                }
            }
        }
        return found;
    }

    private static void boxEndsIncluded() {
        sentence("A BOX are the places from one corner to another one, on all three axes, both included");
        PointShelf shelf = framedBox();
        shelf.corner(4, 5, 6);
        due("its eight ends and none beside it", 8, shelf.count(9, 10, 11));
        due("one short on x", 4, shelf.count(8, 10, 11));
        due("one short on y", 4, shelf.count(9, 9, 11));
        due("one short on z", 4, shelf.count(9, 10, 10));
        due("one more on x", 9, shelf.count(10, 10, 11));
        due("one more on y", 9, shelf.count(9, 11, 11));
        due("one more on z", 9, shelf.count(9, 10, 12));
        due("one place", 1, shelf.count(4, 5, 6));
        shelf.corner(0, 0, 0);
        due("all places", 14, shelf.count(15, 15, 15));
    }

    private static void cornerAtFirst() {
        sentence("the first corner is the CORNER (0, 0, 0 at first)");
        PointShelf shelf = Shelves.aroundLeastPlace();
        due("the corner alone", 1, shelf.box(0, 0, 0, 4));
        due("which has", 0, shelf.next());
        due("with x", 2, shelf.count(15, 0, 0));
        due("with y", 2, shelf.count(0, 15, 0));
        due("with z", 2, shelf.count(0, 0, 15));
    }

    private static void cornerOnAnySide() {
        sentence("of either the greater coordinate may be on any side");
        PointShelf shelf = framedBox();
        for (int side = 0; side < 8; side++) {
            boolean x = side % 2 == 1;
            boolean y = side / 2 % 2 == 1;
            boolean z = side / 4 == 1;
            shelf.corner(x ? 9 : 4, y ? 10 : 5, z ? 11 : 6);
            due("count from side " + side, 8, shelf.count(x ? 4 : 9, y ? 5 : 10, z ? 6 : 11));
            due("box from side " + side, 8, shelf.box(x ? 4 : 9, y ? 5 : 10, z ? 6 : 11, 4));
            for (int id = 0; id < 8; id++) {
                due("listed from side " + side, id, shelf.next());
            }
            shelf.corner(x ? 15 : 0, y ? 15 : 0, z ? 15 : 0);
            due("all from side " + side, 14, shelf.count(x ? 0 : 15, y ? 0 : 15, z ? 0 : 15));
        }
    }

    /** The ids 0 to 7 at the eight ends of the box from 4, 5, 6 to 9, 10, 11, and six more just beside its faces. */
    private static PointShelf framedBox() {
        PointShelf shelf = new PointShelf();
        for (int id = 0; id < 8; id++) {
            shelf.add(id, id % 2 == 0 ? 4 : 9, id / 2 % 2 == 0 ? 5 : 10, id / 4 == 0 ? 6 : 11, 0);
        }
        int[][] beside = {{3, 7, 8}, {10, 7, 8}, {7, 4, 8}, {7, 11, 8}, {7, 7, 5}, {7, 7, 12}};
        for (int i = 0; i < beside.length; i++) {
            shelf.add(10 + i, beside[i][0], beside[i][1], beside[i][2], 0);
        }
        return shelf;
    }

    private static void distance() {
        sentence("The DISTANCE of two places is the sum of the squares of the three differences.");
        PointShelf shelf = new PointShelf();
        shelf.add(1, 15, 15, 15, 0);
        shelf.add(2, 15, 15, 14, 0);
        shelf.add(3, 8, 0, 0, 0);
        shelf.add(4, 5, 5, 3, 0);
        shelf.add(5, 0, 0, 0, 0);
        shelf.add(6, 6, 6, 0, 0);
        // By the sum of the differences 3 would come before 4, by the greatest one 6 before 3.
        int[] fromLow = {5, 4, 3, 6, 2, 1};
        int[] fromHigh = {1, 2, 4, 6, 3, 5};
        for (int k = 1; k <= 6; k++) {
            due("from the least place, by 0, 59, 64, 72, 646, 675", fromLow[k - 1], shelf.nearest(0, 0, 0, k));
            due("from the greatest, by 0, 1, 344, 387, 499, 675", fromHigh[k - 1], shelf.nearest(15, 15, 15, k));
        }
        shelf.add(7, 15, 0, 0, 0);
        shelf.add(8, 11, 10, 0, 0);
        due("by 221", 8, shelf.nearest(0, 0, 0, 5));
        due("by 225", 7, shelf.nearest(0, 0, 0, 6));
    }

    private static void listingRises() {
        sentence("A LISTING is a row of ids, rising (as ints, with sign)");
        PointShelf shelf = new PointShelf();
        int[] rising = {LEAST, LEAST + 1, -2, -1, 0, 1, 2, MOST - 1, MOST};
        for (int i = 0; i < rising.length; i++) {
            shelf.add(rising[i * 4 % 9], 3, 3, 3, 0);
        }
        shelf.box(3, 3, 3, 4);
        for (int id : rising) {
            due("the next", id, shelf.next());
        }
        PointShelf full = Shelves.column(48, 0, 0, 0);
        due("a full listing", 48, full.box(0, 0, 0, 4));
        long before = Long.MIN_VALUE;
        for (int i = 0; i < 48; i++) {
            int id = full.next();
            due("greater than the one before", 1, id > before ? 1 : 0);
            before = id;
        }
        dueThrow("and then empty", NONE, full::next);
    }

    private static void listingEmptyAtFirst() {
        sentence("empty at first");
        PointShelf shelf = new PointShelf();
        due("none in it", 0, shelf.state(4));
        dueThrow("none to take", NONE, shelf::next);
        shelf.add(1, 0, 0, 0, 0);
        due("none in it, though there is a point", 0, shelf.state(4));
        dueThrow("none to take, though there is a point", NONE, shelf::next);
    }

    private static void listingIsFixed() {
        sentence("and fixed when it is made, whatever comes to the points");
        PointShelf shelf = new PointShelf();
        for (int id = 1; id <= 6; id++) {
            shelf.add(id, 2, 2, 2, 0);
        }
        shelf.box(2, 2, 2, 4);
        shelf.remove(1);
        due("one that went", 1, shelf.next());
        shelf.remove(2);
        shelf.add(2, 15, 15, 15, 0);
        due("one that came back elsewhere", 2, shelf.next());
        shelf.recolour(3, 9);
        due("one that was recoloured", 3, shelf.next());
        shelf.add(0, 2, 2, 2, 0);
        shelf.add(-5, 2, 2, 2, 0);
        due("none that came since", 3, shelf.state(4));
        shelf.commit();
        shelf.corner(9, 9, 9);
        shelf.count(2, 2, 2);
        shelf.nearest(2, 2, 2, 1);
        shelf.charge(0);
        due("the fourth, after all else", 4, shelf.next());
        for (int id : new int[] {3, 4, 5, 6, 2, 0, -5}) {
            shelf.remove(id);
        }
        due("two left though no point is", 2, shelf.state(4));
        due("the fifth", 5, shelf.next());
        due("the sixth", 6, shelf.next());
        dueThrow("no more", NONE, shelf::next);
    }

    private static void pagesAre64() {
        sentence("There are 64 PAGES.");
        PointShelf shelf = new PointShelf();
        due("all free at first", 64, shelf.state(2));
        Shelves.addColumn(shelf, 48, 0, 0, 0);
        due("all free before the commit", 64, shelf.state(2));
        shelf.commit();
        due("ten taken", 64 - 10, shelf.state(2));
        PointShelf wide = Shelves.wide();
        wide.commit();
        due("38 taken", 64 - 38, wide.state(2));
        for (int i = 0; i < 48; i++) {
            wide.remove(Shelves.top(i));
        }
        due("taken until the next commit", 64 - 38, wide.state(2));
        wide.commit();
        due("all free again", 64, wide.state(2));
    }

    private static void committedWithoutPointsAtFirst() {
        sentence("that of the points at the latest commit (without points at first)");
        PointShelf shelf = Shelves.column(5, 0, 0, 0);
        due("none committed", 0, shelf.state(5));
        due("no page taken", 64, shelf.state(2));
        due("open at first", 0, shelf.open());
        shelf.add(1, 0, 0, 0, 0);
        shelf.commit();
        shelf.add(2, 0, 0, 0, 0);
        due("the latest has one", 1, shelf.state(5));
        shelf.commit();
        due("the latest has two", 2, shelf.state(5));
        shelf.remove(1);
        due("so there are two again", 2, shelf.open());
    }

    private static void begunPagesCount() {
        sentence("takes one page for each six points that a node of it keeps, begun ones too");
        for (int points = 0; points <= 48; points++) {
            PointShelf shelf = Shelves.column(points, 1, 2, 3);
            int upper = Math.min(4, (points + 2) / 3);
            int lowest = points <= 12 ? 0 : (points - 12 + 5) / 6;
            due("commit of " + points, points == 0 ? 0 : upper + lowest + 1, shelf.commit());
            due("pages left by " + points, 64 - upper - lowest, shelf.state(2));
        }
    }

    private static void cleanHasCommittedNode() {
        sentence("the committed tree has a node for its cube");
        PointShelf shelf = Shelves.column(3, 0, 0, 0);
        due("one node and the root", 2, shelf.commit());
        shelf.add(Shelves.top(3), 0, 0, 0, 0);
        due("a node came at depth 1", 3, shelf.commit());
        shelf.add(Shelves.top(4), 8, 8, 8, 0);
        due("a node came beside it, which stays clean", 3, shelf.commit());
        shelf.remove(Shelves.top(4));
        shelf.commit();
        shelf.add(Shelves.top(4), 8, 8, 8, 0);
        due("a node that an earlier commit had counts as new", 3, shelf.commit());
        PointShelf moved = Shelves.column(7, 0, 0, 0);
        moved.commit();
        moved.remove(Shelves.top(6));
        moved.add(Shelves.top(6), 4, 0, 0, 6);
        due("the same id in another cube", 4, moved.commit());
    }

    private static void cleanKeepsSameIds() {
        sentence("keeps the same ids");
        PointShelf shelf = committedColumn();
        shelf.remove(Shelves.top(2));
        shelf.add(Shelves.below(2), 0, 0, 0, 2);
        due("another id at the top, all else the same", 2, shelf.commit());
        shelf.remove(Shelves.top(6));
        shelf.add(Shelves.below(6), 0, 0, 0, 6);
        due("another id at depth 2, so three nodes", 4, shelf.commit());
    }

    private static void cleanKeepsSameCoordinates() {
        sentence("with the same coordinates");
        for (int axis = 0; axis < 3; axis++) {
            PointShelf shelf = committedColumn();
            shelf.remove(Shelves.top(0));
            shelf.add(Shelves.top(0), axis == 0 ? 1 : 0, axis == 1 ? 1 : 0, axis == 2 ? 1 : 0, 0);
            due("moved on axis " + axis, 2, shelf.commit());
            shelf.open();
            due("and there it is", 1, shelf.field(Shelves.top(0), axis));
        }
    }

    private static void cleanKeepsSameColours() {
        sentence("and colours");
        PointShelf shelf = committedColumn();
        shelf.recolour(Shelves.top(0), 1);
        due("at depth 0", 2, shelf.commit());
        shelf.recolour(Shelves.top(5), 1);
        due("at depth 1", 3, shelf.commit());
        shelf.recolour(Shelves.top(6), LEAST);
        due("at depth 2", 4, shelf.commit());
        shelf.recolour(Shelves.top(6), MOST);
        due("from the least to the greatest", 4, shelf.commit());
    }

    private static void cleanHasNoOtherNodes() {
        sentence("if that tree has no nodes for other cubes in it than the present one has");
        PointShelf shelf = committedColumn();
        shelf.remove(Shelves.top(6));
        due("the node of depth 2 went: those of depth 0 and 1 keep the same", 3, shelf.commit());
        PointShelf deep = Shelves.column(13, 0, 0, 0);
        deep.commit();
        deep.remove(Shelves.top(12));
        due("the node of depth 4 went: four around it", 5, deep.commit());
        PointShelf two = committedColumn();
        two.add(Shelves.top(7), 4, 0, 0, 0);
        two.commit();
        two.remove(Shelves.top(7));
        due("one of two nodes of depth 2 went: the other stays clean", 3, two.commit());
    }

    private static void cleanHasCleanNodes() {
        sentence("and if all nodes for cubes in it are clean");
        PointShelf shelf = Shelves.column(13, 0, 0, 0);
        shelf.commit();
        for (int depth = 4; depth >= 0; depth--) {
            shelf.recolour(Shelves.top(3 * depth), 77);
            due("recoloured at depth " + depth, depth + 2, shelf.commit());
        }
        PointShelf grown = Shelves.column(12, 0, 0, 0);
        grown.commit();
        grown.add(Shelves.top(12), 0, 0, 0, 0);
        due("a node of depth 4 came: it and four around it", 6, grown.commit());
    }

    private static void nothingWrittenIfSame() {
        sentence("if the two trees are the same (all nodes clean, and no others committed), nothing is written");
        PointShelf empty = new PointShelf();
        due("both without points", 0, empty.commit());
        empty.add(1, 0, 0, 0, 0);
        empty.remove(1);
        due("one that came and went", 0, empty.commit());
        PointShelf shelf = committedColumn();
        due("at once again", 0, shelf.commit());
        shelf.remove(Shelves.top(0));
        shelf.remove(Shelves.top(6));
        shelf.add(Shelves.top(6), 0, 0, 0, 6);
        shelf.add(Shelves.top(0), 0, 0, 0, 0);
        due("two that went and came back", 0, shelf.commit());
        shelf.recolour(Shelves.top(3), 9);
        shelf.recolour(Shelves.top(3), 3);
        due("a colour that came back", 0, shelf.commit());
        shelf.remove(Shelves.top(2));
        shelf.open();
        due("after open", 0, shelf.commit());
        due("nothing was written", 4, shelf.state(3));
    }

    private static void noNodesLeft() {
        sentence("(all nodes clean, and no others committed)");
        PointShelf shelf = new PointShelf();
        shelf.add(1, 0, 0, 0, 0);
        shelf.commit();
        shelf.remove(1);
        due("no node, but one is committed: the root alone is written", 1, shelf.commit());
        due("none is committed now", 0, shelf.state(5));
        due("all pages are free", 64, shelf.state(2));
        due("and nothing more", 0, shelf.commit());
        due("pages in all", 3, shelf.state(3));
    }

    private static void onlyUncleanNodesWritten() {
        sentence("Otherwise the nodes that are not clean are written");
        PointShelf shelf = Shelves.wide();
        due("all of them at first", 39, shelf.commit());
        for (int nodes = 2; nodes <= 26; nodes++) {
            Shelves.spoil(shelf, nodes, nodes);
            due("those and the root", nodes + 1, shelf.commit());
        }
    }

    private static void pagesThatCommittedTreeDoesNotTake() {
        sentence("are written to pages that the committed tree does not take, as many as said above");
        PointShelf shelf = Shelves.wide();
        shelf.commit();
        due("pages that are free", 26, shelf.state(2));
        Shelves.spoil(shelf, 26, 1);
        due("26 pages", 27, shelf.commit());
        Shelves.spoil(shelf, 27, 2);
        dueThrow("27 pages", STATE, shelf::commit);
        due("nothing written", 66, shelf.state(3));
        for (int i = 47; i >= 19; i--) {
            shelf.remove(Shelves.top(i));
        }
        due("with fewer nodes it can be", 6, shelf.commit());
        due("nine pages taken", 55, shelf.state(2));
        PointShelf cell = Shelves.column(48, 0, 0, 0);
        cell.commit();
        for (int i = 0; i < 48; i++) {
            cell.recolour(Shelves.top(i), -1);
        }
        due("the pages that were taken are free for the next one", 11, cell.commit());
        due("ten are taken still", 54, cell.state(2));
    }

    private static void rootIsNoneOf64() {
        sentence("and behind these one more page, the ROOT (it is none of the 64)");
        PointShelf shelf = new PointShelf();
        shelf.add(1, 0, 0, 0, 0);
        due("a page and the root", 2, shelf.commit());
        due("one is taken", 63, shelf.state(2));
        PointShelf wide = Shelves.wide();
        wide.commit();
        due("38 are taken", 26, wide.state(2));
        Shelves.spoil(wide, 26, 1);
        due("the last 26 and the root", 27, wide.commit());
        due("38 are taken still", 26, wide.state(2));
    }

    private static void presentIsCommitted() {
        sentence("Then the present tree is the committed one.");
        PointShelf shelf = Shelves.column(13, 1, 1, 1);
        shelf.commit();
        shelf.remove(Shelves.top(0));
        shelf.recolour(Shelves.top(1), -1);
        shelf.remove(Shelves.top(2));
        shelf.add(Shelves.top(2), 14, 14, 14, 2);
        shelf.add(Shelves.top(20), 3, 3, 3, 20);
        shelf.add(Shelves.top(21), 3, 3, 3, 21);
        shelf.commit();
        due("so many committed", 14, shelf.state(5));
        due("the pages of its five nodes", 59, shelf.state(2));
        due("nothing to commit", 0, shelf.commit());
        due("so many after open", 14, shelf.open());
        dueThrow("the one that went", NONE, () -> shelf.field(Shelves.top(0), 0));
        due("the colour", -1, shelf.field(Shelves.top(1), 3));
        due("the place", 14, shelf.field(Shelves.top(2), 0));
        due("the one that came", 20, shelf.field(Shelves.top(20), 3));
        due("the one that came up to depth 0", 0, shelf.field(Shelves.top(3), 4));
        due("nodes", 5, shelf.state(1));
        due("still nothing to commit", 0, shelf.commit());
    }

    private static void rootIsOneOfCharge() {
        sentence("after charge(n) n more pages (the root is one) can be written");
        for (int n = 0; n <= 8; n++) {
            PointShelf shelf = Shelves.column(13, 0, 0, 0);
            shelf.charge(n);
            CHECK.due("six pages of " + n, n < 6 ? "UnsupportedOperationException" : "6", Check.outcome(shelf::commit));
        }
        PointShelf empty = new PointShelf();
        empty.add(1, 0, 0, 0, 0);
        empty.commit();
        empty.remove(1);
        empty.charge(1);
        due("the root alone needs one", 1, empty.commit());
        empty.add(1, 0, 0, 0, 0);
        dueThrow("and none is left", POWER, empty::commit);
    }

    private static void pageBehindChargeNotWritten() {
        sentence("the next one is not, and the power goes");
        for (int n = 0; n < 6; n++) {
            PointShelf shelf = Shelves.column(13, 0, 0, 0);
            shelf.charge(n);
            dueThrow("six pages of " + n, POWER, shelf::commit);
            due("so many were written", n, shelf.state(3));
            due("and none committed", 0, shelf.state(5));
            due("and no page is taken", 64, shelf.state(2));
        }
        PointShelf shelf = Shelves.column(13, 0, 0, 0);
        shelf.charge(8);
        shelf.commit();
        shelf.recolour(Shelves.top(3), -1);
        dueThrow("three pages of two", POWER, shelf::commit);
        due("eight in all", 8, shelf.state(3));
        due("the latest commit stays", 13, shelf.state(5));
        due("with its colours", 3, shelf.field(Shelves.top(3), 3));
    }

    private static void allAsAfterOpen() {
        sentence("all is as after open() then");
        for (boolean power : new boolean[] {true, false}) {
            PointShelf shelf = Shelves.column(4, 2, 2, 2);
            shelf.commit();
            shelf.remove(Shelves.top(0));
            shelf.add(Shelves.top(9), 1, 1, 1, 1);
            shelf.recolour(Shelves.top(1), 99);
            shelf.corner(2, 2, 2);
            shelf.box(1, 1, 1, 4);
            if (power) {
                shelf.charge(0);
                dueThrow("the power goes", POWER, shelf::commit);
            } else {
                due("points again", 4, shelf.open());
            }
            due("points", 4, shelf.state(0));
            due("nodes", 2, shelf.state(1));
            due("the one that went", 0, shelf.field(Shelves.top(0), 4));
            dueThrow("the one that came", NONE, () -> shelf.field(Shelves.top(9), 0));
            due("the colour", 1, shelf.field(Shelves.top(1), 3));
            due("the listing", 0, shelf.state(4));
            dueThrow("the listing's first", NONE, shelf::next);
            due("the corner", 4, shelf.count(2, 2, 2));
            due("the corner is 0, 0, 0", 0, shelf.count(1, 1, 1));
            due("nothing to commit", 0, shelf.commit());
        }
        PointShelf corner = Shelves.aroundLeastPlace();
        corner.commit();
        corner.corner(1, 1, 1);
        corner.recolour(0, 1);
        corner.charge(0);
        dueThrow("the power goes", POWER, corner::commit);
        due("the corner alone", 1, corner.count(0, 0, 0));
    }

    private static void noChargeAnyMore() {
        sentence("and there is no charge any more, so that all can be written again (as at first)");
        PointShelf shelf = Shelves.column(1, 0, 0, 0);
        shelf.commit();
        shelf.recolour(Shelves.top(0), -1);
        shelf.charge(1);
        dueThrow("the power goes", POWER, shelf::commit);
        for (int n = 1; n <= 60; n++) {
            shelf.recolour(Shelves.top(0), n);
            due("written again", 2, shelf.commit());
        }
        due("more than any charge", 123, shelf.state(3));
        PointShelf first = Shelves.column(1, 0, 0, 0);
        for (int n = 1; n <= 60; n++) {
            first.recolour(Shelves.top(0), n);
            due("as at first", 2, first.commit());
        }
    }

    /** Three points at depth 0, three at depth 1, one at depth 2; committed with four pages. */
    private static PointShelf committedColumn() {
        PointShelf shelf = Shelves.column(7, 0, 0, 0);
        due("the first commit", 4, shelf.commit());
        return shelf;
    }

    private static void sentence(String words) {
        CHECK.sentence(words);
    }

    private static void due(String what, long want, long got) {
        CHECK.due(what, want, got);
    }

    private static void dueThrow(String what, Class<? extends RuntimeException> want, Check.Deed deed) {
        CHECK.dueThrow(what, want, deed);
    }
}
