import java.util.ArrayList;
import java.util.List;
import java.util.NoSuchElementException;

/** Each promise of the document by itself: ordinary inputs, the edges it names, and wrong inputs. */
public final class PromiseTest {
    /** The ids 0 to 12 by falling rank. */
    private static final int[] BY_RANK = {2, 11, 4, 8, 7, 1, 12, 9, 5, 10, 3, 6, 0};

    private static final Check CHECK = new Check();

    public static void main(String[] args) {
        newObject();
        add();
        addRefused();
        treeHangsOnSetAlone();
        remove();
        recolour();
        field();
        corner();
        box();
        next();
        count();
        nearest();
        kept();
        keptOnlyInCubes();
        commit();
        commitWritesChangedPathsOnly();
        commitOfOtherNodesInCube();
        commitWithTooFewPages();
        charge();
        powerGoes();
        open();
        state();
        rank();
        CHECK.end("PromiseTest");
    }

    private static void newObject() {
        PointShelf shelf = new PointShelf();
        dueStates("new", shelf, 0, 0, 64, 0, 0, 0);
        due("1 commit of nothing", 0, shelf.commit());
        due("1 open of nothing", 0, shelf.open());
        dueThrow("1 next", NoSuchElementException.class, shelf::next);
        dueThrow("1 kept", NoSuchElementException.class, () -> shelf.kept(0, 0, 0, 0, 0));
        shelf.add(1, 0, 0, 0, 0);
        shelf.add(2, 1, 0, 0, 0);
        due("1 the corner at first", 1, shelf.count(0, 15, 15));
    }

    private static void add() {
        PointShelf shelf = new PointShelf();
        int[] depths = {0, 0, 0, 1, 1, 1, 2, 2, 2, 3, 3, 3, 4};
        for (int i = 0; i < BY_RANK.length; i++) {
            due("2 add by falling rank " + BY_RANK[i], depths[i], shelf.add(BY_RANK[i], 0, 0, 0, i));
        }
        PointShelf rising = new PointShelf();
        for (int i = BY_RANK.length - 1; i >= 0; i--) {
            due("2 add by rising rank " + BY_RANK[i], 0, rising.add(BY_RANK[i], 15, 15, 15, i));
        }
        for (int i = 0; i < BY_RANK.length; i++) {
            due("2 depth after all came " + BY_RANK[i], depths[i], rising.field(BY_RANK[i], 4));
        }
        PointShelf edges = new PointShelf();
        due("2 add of the least id", 0, edges.add(Integer.MIN_VALUE, 0, 15, 0, Integer.MIN_VALUE));
        due("2 add of the greatest id", 0, edges.add(Integer.MAX_VALUE, 15, 0, 15, Integer.MAX_VALUE));
        due("2 the least colour", Integer.MIN_VALUE, edges.field(Integer.MIN_VALUE, 3));
        due("2 the greatest colour", Integer.MAX_VALUE, edges.field(Integer.MAX_VALUE, 3));
    }

    private static void addRefused() {
        PointShelf shelf = new PointShelf();
        shelf.add(1, 5, 6, 7, 8);
        for (int wrong : new int[] {-1, 16, Integer.MIN_VALUE, Integer.MAX_VALUE}) {
            dueThrow("2 add x " + wrong, IllegalArgumentException.class, () -> shelf.add(2, wrong, 0, 0, 0));
            dueThrow("2 add y " + wrong, IllegalArgumentException.class, () -> shelf.add(2, 0, wrong, 0, 0));
            dueThrow("2 add z " + wrong, IllegalArgumentException.class, () -> shelf.add(2, 0, 0, wrong, 0));
            dueThrow("2 add z before id", IllegalArgumentException.class, () -> shelf.add(1, 0, 0, wrong, 0));
        }
        dueThrow("2 add of an id there", IllegalStateException.class, () -> shelf.add(1, 0, 0, 0, 0));
        due("2 the point stays", 5, shelf.field(1, 0));
        due("2 its colour stays", 8, shelf.field(1, 3));
        due("2 none came", 1, shelf.state(0));
        for (int id = 2; id <= 48; id++) {
            shelf.add(id, id % 16, 0, 0, 0);
        }
        due("2 there are 48", 48, shelf.state(0));
        dueThrow("2 the 49th", IllegalStateException.class, () -> shelf.add(49, 0, 0, 0, 0));
        dueThrow("2 the 49th elsewhere", IllegalArgumentException.class, () -> shelf.add(49, 0, 0, 16, 0));
        due("2 still 48", 48, shelf.state(0));
        shelf.remove(48);
        shelf.add(49, 0, 0, 0, 0);
        due("2 48 again", 48, shelf.state(0));
    }

    private static void treeHangsOnSetAlone() {
        String want = treeAfter(1, 0);
        for (int step : new int[] {5, 7, 11, 13}) {
            for (int extra = 0; extra < 3; extra++) {
                due("2, 3 tree by steps of " + step, want, treeAfter(step, extra));
            }
        }
    }

    /** Adds the same 48 points in some order, with others that come and go between them. */
    private static String treeAfter(int step, int extra) {
        PointShelf shelf = new PointShelf();
        for (int n = 0; n < 48; n++) {
            int id = n * step % 48;
            if (extra > 0 && n < 40) {
                shelf.add(1000 + extra * n, n % 16, 3, 3, 0);
            }
            shelf.add(id, id % 3, id % 5, id % 2, 0);
            if (extra > 0 && n < 40) {
                shelf.remove(1000 + extra * n);
            }
        }
        StringBuilder tree = new StringBuilder();
        for (int id = 0; id < 48; id++) {
            tree.append(shelf.field(id, 4));
        }
        return tree.append(' ').append(shelf.state(1)).toString();
    }

    private static void remove() {
        PointShelf shelf = oneColumn();
        due("3 remove at depth 4", 4, shelf.remove(0));
        due("3 remove at depth 0", 0, shelf.remove(2));
        due("3 8 came up from depth 1", 0, shelf.field(8, 4));
        due("3 12 came up from depth 2", 1, shelf.field(12, 4));
        due("3 10 came up from depth 3", 2, shelf.field(10, 4));
        due("3 6 stays at depth 3", 3, shelf.field(6, 4));
        due("3 so many left", 11, shelf.state(0));
        dueThrow("3 remove again", NoSuchElementException.class, () -> shelf.remove(2));
        dueThrow("3 remove of none", NoSuchElementException.class, () -> shelf.remove(Integer.MIN_VALUE));
        due("3 none went", 11, shelf.state(0));
        due("3 remove where it is now", 1, shelf.remove(12));
        due("3 the id is free again", 1, shelf.add(12, 0, 0, 0, 0));
    }

    private static void recolour() {
        PointShelf shelf = oneColumn();
        due("4 the colour before", 0, shelf.recolour(2, Integer.MIN_VALUE));
        due("4 the colour between", Integer.MIN_VALUE, shelf.recolour(2, -5));
        due("4 the colour now", -5, shelf.field(2, 3));
        due("4 another's colour", 1, shelf.field(11, 3));
        due("4 the depth stays", 0, shelf.field(2, 4));
        dueThrow("4 none to recolour", NoSuchElementException.class, () -> shelf.recolour(13, 1));
        shelf.remove(2);
        dueThrow("4 one that went", NoSuchElementException.class, () -> shelf.recolour(2, 1));
        due("4 a deep point's colour", 12, shelf.recolour(0, 3));
    }

    private static void field() {
        PointShelf shelf = new PointShelf();
        shelf.add(-7, 3, 15, 0, 99);
        due("5 x", 3, shelf.field(-7, 0));
        due("5 y", 15, shelf.field(-7, 1));
        due("5 z", 0, shelf.field(-7, 2));
        due("5 colour", 99, shelf.field(-7, 3));
        due("5 depth", 0, shelf.field(-7, 4));
        for (int wrong : new int[] {-1, 5, Integer.MIN_VALUE, Integer.MAX_VALUE}) {
            dueThrow("5 field " + wrong, IllegalArgumentException.class, () -> shelf.field(-7, wrong));
            dueThrow("5 field " + wrong + " of none", IllegalArgumentException.class, () -> shelf.field(7, wrong));
        }
        for (int f = 0; f <= 4; f++) {
            int asked = f;
            dueThrow("5 field of none", NoSuchElementException.class, () -> shelf.field(7, asked));
        }
        due("5 depth 4", 4, oneColumn().field(0, 4));
    }

    private static void corner() {
        PointShelf shelf = new PointShelf();
        shelf.add(1, 2, 3, 4, 0);
        shelf.add(2, 9, 9, 9, 0);
        shelf.corner(9, 9, 9);
        due("6 from the corner downwards", 2, shelf.count(2, 3, 4));
        due("6 the corner alone", 1, shelf.count(9, 9, 9));
        for (int wrong : new int[] {-1, 16}) {
            dueThrow("6 corner x " + wrong, IllegalArgumentException.class, () -> shelf.corner(wrong, 0, 0));
            dueThrow("6 corner y " + wrong, IllegalArgumentException.class, () -> shelf.corner(0, wrong, 0));
            dueThrow("6 corner z " + wrong, IllegalArgumentException.class, () -> shelf.corner(0, 0, wrong));
        }
        due("6 the corner stays when refused", 1, shelf.count(9, 9, 9));
        shelf.corner(15, 0, 15);
        due("6 the corner of later boxes", 2, shelf.box(0, 15, 0, 4));
        due("6 one axis misses", 1, shelf.box(0, 8, 0, 4));
    }

    private static void box() {
        PointShelf shelf = oneColumn();
        int[] most = {3, 6, 9, 12, 13};
        for (int depth = 0; depth <= 4; depth++) {
            due("7 box to depth " + depth, most[depth], shelf.box(15, 15, 15, depth));
        }
        dueListing("7 ids rise", shelf, 0, 1, 2, 3, 4, 5, 6, 7, 8, 9, 10, 11, 12);
        due("7 box at depth 0", 3, shelf.box(0, 0, 0, 0));
        dueListing("7 ids of depth 0", shelf, 2, 4, 11);
        shelf.add(-1, 4, 5, 6, 0);
        shelf.add(Integer.MIN_VALUE, 4, 5, 7, 0);
        shelf.add(Integer.MAX_VALUE, 5, 5, 6, 0);
        shelf.corner(4, 5, 6);
        due("7 both ends are in", 3, shelf.box(5, 5, 7, 4));
        dueListing("7 ids rise with sign", shelf, Integer.MIN_VALUE, -1, Integer.MAX_VALUE);
        due("7 a box of one place", 1, shelf.box(4, 5, 6, 4));
        due("7 an empty box", 0, boxElsewhere(shelf));
        due("7 the listing is empty then", 0, shelf.state(4));
        shelf.corner(4, 5, 6);
        shelf.box(5, 5, 7, 4);
        for (int wrong : new int[] {-1, 16}) {
            dueThrow("7 box x " + wrong, IllegalArgumentException.class, () -> shelf.box(wrong, 0, 0, 0));
            dueThrow("7 box y " + wrong, IllegalArgumentException.class, () -> shelf.box(0, wrong, 0, 0));
            dueThrow("7 box z " + wrong, IllegalArgumentException.class, () -> shelf.box(0, 0, wrong, 0));
        }
        dueThrow("7 depth -1", IllegalArgumentException.class, () -> shelf.box(0, 0, 0, -1));
        dueThrow("7 depth 5", IllegalArgumentException.class, () -> shelf.box(0, 0, 0, 5));
        due("7 the listing stays when refused", 3, shelf.state(4));
    }

    private static int boxElsewhere(PointShelf shelf) {
        shelf.corner(10, 10, 10);
        return shelf.box(15, 15, 15, 4);
    }

    private static void next() {
        PointShelf shelf = oneColumn();
        dueThrow("8 next before any box", NoSuchElementException.class, shelf::next);
        shelf.box(0, 0, 0, 0);
        shelf.remove(2);
        shelf.remove(4);
        shelf.add(-3, 0, 0, 0, 0);
        due("8 the first, though it went", 2, shelf.next());
        shelf.commit();
        due("8 the second, though it went", 4, shelf.next());
        shelf.add(2, 9, 9, 9, 9);
        due("8 the last", 11, shelf.next());
        dueThrow("8 next of an empty listing", NoSuchElementException.class, shelf::next);
        due("8 it stays empty", 0, shelf.state(4));
        shelf.box(0, 0, 0, 4);
        due("8 the first of another listing", -3, shelf.next());
        due("8 a third one", 2, shelf.box(0, 0, 0, 0));
        dueListing("8 it takes the other's place", shelf, -3, 11);
    }

    private static void count() {
        PointShelf shelf = oneColumn();
        shelf.add(50, 15, 15, 15, 0);
        shelf.add(51, 15, 0, 8, 0);
        due("9 all", 15, shelf.count(15, 15, 15));
        due("9 of every depth", 13, shelf.count(0, 0, 0));
        due("9 a face", 14, shelf.count(15, 0, 15));
        due("9 short of the last on x", 13, shelf.count(14, 15, 15));
        due("9 short of the last on z", 13, shelf.count(15, 15, 7));
        shelf.corner(15, 15, 0);
        due("9 from another corner", 1, shelf.count(15, 0, 8));
        shelf.box(15, 15, 15, 4);
        due("9 the listing is not touched", 0, shelf.count(9, 9, 9));
        due("9 it has the one of before", 1, shelf.state(4));
        for (int wrong : new int[] {-1, 16}) {
            dueThrow("9 count x " + wrong, IllegalArgumentException.class, () -> shelf.count(wrong, 0, 0));
            dueThrow("9 count y " + wrong, IllegalArgumentException.class, () -> shelf.count(0, wrong, 0));
            dueThrow("9 count z " + wrong, IllegalArgumentException.class, () -> shelf.count(0, 0, wrong));
        }
    }

    private static void nearest() {
        PointShelf shelf = new PointShelf();
        dueThrow("10 no points", NoSuchElementException.class, () -> shelf.nearest(0, 0, 0, 1));
        shelf.add(10, 3, 0, 0, 0);
        shelf.add(-10, 0, 2, 2, 0);
        shelf.add(5, 0, 3, 0, 0);
        shelf.add(Integer.MIN_VALUE, 0, 0, 3, 0);
        shelf.add(Integer.MAX_VALUE, 3, 0, 0, 0);
        shelf.add(0, 15, 15, 15, 0);
        // By squares 0, 2, 2 is nearer than 3, 0, 0; by the differences themselves it would be farther.
        int[] want = {-10, Integer.MIN_VALUE, 5, 10, Integer.MAX_VALUE, 0};
        for (int k = 1; k <= want.length; k++) {
            due("10 the nearest by place " + k, want[k - 1], shelf.nearest(0, 0, 0, k));
        }
        due("10 from the far end", 0, shelf.nearest(15, 15, 15, 1));
        due("10 from between", -10, shelf.nearest(1, 2, 2, 1));
        due("10 the farthest from the far end", Integer.MAX_VALUE, shelf.nearest(15, 15, 15, 6));
        dueThrow("10 one too many", NoSuchElementException.class, () -> shelf.nearest(0, 0, 0, 7));
        dueThrow("10 the greatest k", NoSuchElementException.class, () -> shelf.nearest(0, 0, 0, Integer.MAX_VALUE));
        dueThrow("10 k 0", IllegalArgumentException.class, () -> shelf.nearest(0, 0, 0, 0));
        dueThrow("10 k less", IllegalArgumentException.class, () -> shelf.nearest(0, 0, 0, Integer.MIN_VALUE));
        for (int wrong : new int[] {-1, 16}) {
            dueThrow("10 x " + wrong, IllegalArgumentException.class, () -> shelf.nearest(wrong, 0, 0, 1));
            dueThrow("10 y " + wrong, IllegalArgumentException.class, () -> shelf.nearest(0, wrong, 0, 1));
            dueThrow("10 z " + wrong + " first", IllegalArgumentException.class, () -> shelf.nearest(0, 0, wrong, 99));
        }
    }

    private static void kept() {
        PointShelf shelf = oneColumn();
        for (int i = 0; i < BY_RANK.length; i++) {
            due("11 kept at place " + i, BY_RANK[i], shelf.kept(i / 3, 0, 0, 0, i % 3));
        }
        for (int depth = 0; depth <= 3; depth++) {
            int asked = depth;
            dueThrow("11 a fourth", NoSuchElementException.class, () -> shelf.kept(asked, 0, 0, 0, 3));
        }
        dueThrow("11 place -1", NoSuchElementException.class, () -> shelf.kept(0, 0, 0, 0, -1));
        dueThrow("11 a far place", NoSuchElementException.class, () -> shelf.kept(4, 0, 0, 0, Integer.MAX_VALUE));
        shelf.remove(11);
        due("11 one came up", 8, shelf.kept(0, 0, 0, 0, 2));
        due("11 to the lesser place", 4, shelf.kept(0, 0, 0, 0, 1));
        PointShelf full = fullCell();
        due("11 depth 4 keeps all the rest, 0 has the least rank", 0, full.kept(4, 5, 5, 5, 35));
        dueThrow("11 but no more", NoSuchElementException.class, () -> full.kept(4, 5, 5, 5, 36));
    }

    private static void keptOnlyInCubes() {
        PointShelf shelf = oneColumn();
        shelf.add(100, 15, 15, 15, 0);
        due("11 the node of another cube", 100, shelf.kept(1, 1, 1, 1, 0));
        dueThrow("11 a cube without a node", NoSuchElementException.class, () -> shelf.kept(1, 1, 0, 0, 0));
        dueThrow("11 the last cube", NoSuchElementException.class, () -> shelf.kept(4, 15, 15, 15, 0));
        for (int depth = 0; depth <= 4; depth++) {
            int asked = depth;
            for (int wrong : new int[] {-1, 1 << depth, Integer.MIN_VALUE, Integer.MAX_VALUE}) {
                dueThrow("11 cx " + wrong, IllegalArgumentException.class, () -> shelf.kept(asked, wrong, 0, 0, 0));
                dueThrow("11 cy " + wrong, IllegalArgumentException.class, () -> shelf.kept(asked, 0, wrong, 0, 0));
                dueThrow("11 cz " + wrong, IllegalArgumentException.class, () -> shelf.kept(asked, 0, 0, wrong, -1));
            }
        }
        for (int wrong : new int[] {-1, 5, 32, Integer.MIN_VALUE, Integer.MAX_VALUE}) {
            dueThrow("11 depth " + wrong, IllegalArgumentException.class, () -> shelf.kept(wrong, 0, 0, 0, 0));
        }
    }

    private static void commit() {
        PointShelf shelf = oneColumn();
        due("12 five nodes and the root", 6, shelf.commit());
        due("12 nothing has changed", 0, shelf.commit());
        dueStates("12", shelf, 13, 5, 59, 6, 0, 13);
        shelf.remove(7);
        shelf.add(7, 0, 0, 0, 4);
        due("12 it came back as it was", 0, shelf.commit());
        shelf.recolour(7, 40);
        shelf.recolour(7, 4);
        due("12 its colour came back", 0, shelf.commit());
        shelf.remove(7);
        shelf.add(7, 0, 0, 1, 4);
        due("12 it came back elsewhere", 3, shelf.commit());
        for (int id : BY_RANK) {
            shelf.remove(id);
        }
        due("12 none left: the root alone", 1, shelf.commit());
        dueStates("12 none left", shelf, 0, 0, 64, 10, 0, 0);
        due("12 and nothing more", 0, shelf.commit());
        due("12 a full cell takes 6 + 4 pages", 11, fullCell().commit());
    }

    private static void commitWritesChangedPathsOnly() {
        PointShelf shelf = new PointShelf();
        // 2, 11, 4 at the root; 8, 7, 1 and then 12 low; 9, 5, 10 and then 3 high.
        for (int i = 0; i < 11; i++) {
            int side = i >= 7 ? 15 : 0;
            shelf.add(BY_RANK[i], side, side, side, 0);
        }
        due("12 the first commit", 6, shelf.commit());
        shelf.recolour(12, 5);
        due("12 a leaf, the one above it, the top", 4, shelf.commit());
        shelf.recolour(8, 5);
        due("12 not what is below", 3, shelf.commit());
        shelf.recolour(4, 5);
        due("12 the top alone", 2, shelf.commit());
        shelf.recolour(12, 6);
        shelf.recolour(3, 6);
        due("12 both sides", 6, shelf.commit());
        dueStates("12 paths", shelf, 11, 5, 59, 21, 0, 11);
    }

    /** A node that keeps the same is not clean once one has gone from the cubes in its own. */
    private static void commitOfOtherNodesInCube() {
        PointShelf shelf = new PointShelf();
        for (int i = 0; i < 7; i++) {
            shelf.add(BY_RANK[i], 0, 0, 0, 0);
        }
        due("12 three nodes", 4, shelf.commit());
        shelf.remove(12);
        due("12 a leaf went: those above it", 3, shelf.commit());
        shelf.add(12, 0, 0, 0, 0);
        due("12 a leaf came: with those above it", 4, shelf.commit());
        PointShelf full = fullCell();
        full.commit();
        due("12 36 points in the cell", 54, full.state(2));
        int last = full.kept(4, 5, 5, 5, 35);
        full.remove(last);
        due("12 the cell's six pages and those above", 11, full.commit());
        due("12 35 points still take six", 54, full.state(2));
        for (int i = 0; i < 5; i++) {
            full.remove(full.kept(4, 5, 5, 5, 0));
        }
        due("12 30 points take five", 10, full.commit());
        due("12 five in the cell", 55, full.state(2));
    }

    private static void commitWithTooFewPages() {
        List<Integer> ids = new ArrayList<>();
        PointShelf shelf = wideTree(ids);
        due("12 38 pages and the root", 39, shelf.commit());
        due("12 26 are free", 26, shelf.state(2));
        // The top, the two cubes above, and 8 + 8 leaves; then the third one and 6 leaves of it.
        for (int i = 19; i < 41; i++) {
            shelf.recolour(ids.get(i), 5);
        }
        shelf.recolour(ids.get(41), 5);
        shelf.charge(27);
        dueThrow("12 27 pages for 26", IllegalStateException.class, shelf::commit);
        dueStates("12 nothing is changed", shelf, 48, 38, 26, 39, 0, 48);
        due("12 the colours stay", 5, shelf.field(ids.get(41), 3));
        shelf.recolour(ids.get(41), 0);
        due("12 26 pages for 26, and no charge was lost", 27, shelf.commit());
        due("12 as many are free as before", 26, shelf.state(2));
        for (int id : ids) {
            shelf.recolour(id, 6);
        }
        dueThrow("12 too few pages come before too little charge", IllegalStateException.class, shelf::commit);
        due("12 so the power has not gone", 6, shelf.field(ids.get(0), 3));
    }

    private static void charge() {
        PointShelf shelf = new PointShelf();
        dueThrow("13 charge -1", IllegalArgumentException.class, () -> shelf.charge(-1));
        dueThrow("13 charge 100", IllegalArgumentException.class, () -> shelf.charge(100));
        dueThrow("13 the greatest", IllegalArgumentException.class, () -> shelf.charge(Integer.MAX_VALUE));
        dueThrow("13 the least", IllegalArgumentException.class, () -> shelf.charge(Integer.MIN_VALUE));
        shelf.add(1, 0, 0, 0, 0);
        due("13 no charge at first, refused ones are none", 2, shelf.commit());
        shelf.charge(0);
        due("13 a commit of nothing needs none", 0, shelf.commit());
        shelf.charge(2);
        dueThrow("13 a wrong charge changes nothing", IllegalArgumentException.class, () -> shelf.charge(100));
        shelf.add(2, 0, 0, 0, 0);
        due("13 two pages for two", 2, shelf.commit());
        shelf.recolour(2, 1);
        dueThrow("13 then none is left", UnsupportedOperationException.class, shelf::commit);
        shelf.charge(99);
        shelf.charge(1);
        shelf.recolour(2, 1);
        shelf.open();
        shelf.recolour(2, 2);
        dueThrow("13 the last charge counts, through open", UnsupportedOperationException.class, shelf::commit);
        shelf.charge(5);
        shelf.recolour(2, 3);
        due("13 two of five", 2, shelf.commit());
        shelf.recolour(2, 4);
        due("13 two of three", 2, shelf.commit());
        shelf.recolour(2, 5);
        dueThrow("13 one is too few", UnsupportedOperationException.class, shelf::commit);
        due("13 written in all, two of them for nothing", 10, shelf.state(3));
    }

    private static void powerGoes() {
        PointShelf shelf = oneColumn();
        shelf.commit();
        shelf.remove(2);
        shelf.add(77, 9, 9, 9, 9);
        shelf.recolour(11, 1234);
        shelf.corner(9, 9, 9);
        shelf.box(9, 9, 9, 4);
        shelf.charge(3);
        dueThrow("12 the power goes", UnsupportedOperationException.class, shelf::commit);
        dueStates("13 all is as after open", shelf, 13, 5, 59, 9, 0, 13);
        due("13 the colours too", 1, shelf.field(11, 3));
        due("13 the point is back", 0, shelf.field(2, 4));
        dueThrow("13 the other is gone", NoSuchElementException.class, () -> shelf.field(77, 0));
        due("13 the corner too", 13, shelf.count(0, 0, 0));
        dueThrow("13 the listing too", NoSuchElementException.class, shelf::next);
        shelf.recolour(0, -1);
        due("13 no charge any more", 6, shelf.commit());
        shelf.recolour(0, -2);
        shelf.charge(5);
        dueThrow("13 all but the root", UnsupportedOperationException.class, shelf::commit);
        due("13 five for nothing", 20, shelf.state(3));
        due("13 the commit before counts", -1, shelf.field(0, 3));
    }

    private static void open() {
        PointShelf shelf = oneColumn();
        due("14 nothing committed", 0, shelf.open());
        dueStates("14 empty", shelf, 0, 0, 64, 0, 0, 0);
        shelf.add(1, 1, 2, 3, 4);
        shelf.add(2, 5, 6, 7, 8);
        shelf.commit();
        shelf.recolour(1, 40);
        shelf.remove(2);
        shelf.add(2, 0, 0, 0, 0);
        shelf.add(3, 0, 0, 0, 0);
        shelf.corner(15, 15, 15);
        shelf.box(0, 0, 0, 4);
        due("14 so many points", 2, shelf.open());
        due("14 the colour", 4, shelf.field(1, 3));
        due("14 the place", 6, shelf.field(2, 1));
        dueThrow("14 what came later", NoSuchElementException.class, () -> shelf.field(3, 0));
        due("14 the listing", 0, shelf.state(4));
        due("14 the corner", 1, shelf.count(4, 15, 15));
        due("14 nothing is changed then", 0, shelf.commit());
        due("14 and again", 2, shelf.open());
        shelf.recolour(1, 41);
        due("14 what is committed does not follow", 4, afterOpen(shelf));
    }

    private static int afterOpen(PointShelf shelf) {
        shelf.open();
        return shelf.field(1, 3);
    }

    private static void state() {
        PointShelf shelf = oneColumn();
        dueStates("15 before the commit", shelf, 13, 5, 64, 0, 0, 0);
        shelf.commit();
        shelf.remove(0);
        shelf.box(0, 0, 0, 1);
        shelf.next();
        dueStates("15 after the commit", shelf, 12, 4, 59, 6, 5, 13);
        for (int other : new int[] {-1, 6, Integer.MIN_VALUE, Integer.MAX_VALUE}) {
            due("15 state " + other, -1, shelf.state(other));
        }
    }

    private static void rank() {
        PointShelf shelf = new PointShelf();
        due("16 rank of 0", 0L, shelf.rank(0));
        due("16 rank of 1", 3168306033L, shelf.rank(1));
        due("16 rank of -1", 4186332038L, shelf.rank(-1));
        due("16 rank of 2", 4178898405L, shelf.rank(2));
        due("16 rank of -7", 1424667271L, shelf.rank(-7));
        due("16 rank of the greatest", 3217909093L, shelf.rank(Integer.MAX_VALUE));
        due("16 rank of the least", 1703202012L, shelf.rank(Integer.MIN_VALUE));
        shelf.add(123456789, 0, 0, 0, 0);
        due("16 rank of a point", 3982903673L, shelf.rank(123456789));
        for (int i = 1; i < BY_RANK.length; i++) {
            due("16 ranks fall", 1, shelf.rank(BY_RANK[i - 1]) > shelf.rank(BY_RANK[i]) ? 1 : 0);
        }
    }

    /** The ids 0 to 12 at 0, 0, 0, three a depth and the last at depth 4; colours rise from 0 by falling rank. */
    private static PointShelf oneColumn() {
        PointShelf shelf = new PointShelf();
        for (int i = 0; i < BY_RANK.length; i++) {
            shelf.add(BY_RANK[i], 0, 0, 0, i);
        }
        return shelf;
    }

    /** 48 points at 5, 5, 5: the cell keeps 36. */
    private static PointShelf fullCell() {
        PointShelf shelf = new PointShelf();
        for (int id = 0; id < 48; id++) {
            shelf.add(id, 5, 5, 5, 0);
        }
        return shelf;
    }

    private static PointShelf wideTree(List<Integer> ids) {
        for (int id = 0; id < 48; id++) {
            ids.add(id);
        }
        ids.sort((a, b) -> Long.compare(ShelfModel.rank(b), ShelfModel.rank(a)));
        PointShelf shelf = new PointShelf();
        for (int i = 0; i < 48; i++) {
            int[] place = WideTree.places().get(i);
            shelf.add(ids.get(i), place[0], place[1], place[2], 0);
        }
        return shelf;
    }

    private static void dueListing(String what, PointShelf shelf, int... ids) {
        due(what + ": how many", ids.length, shelf.state(4));
        for (int id : ids) {
            due(what, id, shelf.next());
        }
        dueThrow(what + ": no more", NoSuchElementException.class, shelf::next);
    }

    private static void dueStates(String what, PointShelf shelf, int... states) {
        for (int i = 0; i < states.length; i++) {
            due(what + ", state " + i, states[i], shelf.state(i));
        }
    }

    private static void due(String what, long want, long got) {
        CHECK.due(what, want, got);
    }

    private static void due(String what, String want, String got) {
        CHECK.due(what, want, got);
    }

    private static void dueThrow(String what, Class<? extends RuntimeException> want, Check.Deed deed) {
        CHECK.dueThrow(what, want, deed);
    }
}
