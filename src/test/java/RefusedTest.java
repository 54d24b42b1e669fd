import java.util.ArrayList;
import java.util.List;
import java.util.NoSuchElementException;

/**
 * A call that throws IllegalArgumentException, IllegalStateException or NoSuchElementException changes nothing:
 * every such call is made on shelves of several kinds, and then each shelf is read out beside
 * another one that came about in the same way but for that call.
 */
public final class RefusedTest {
    private static final Class<IllegalArgumentException> ARGUMENT = IllegalArgumentException.class;
    private static final Class<IllegalStateException> STATE = IllegalStateException.class;
    private static final Class<NoSuchElementException> NONE = NoSuchElementException.class;

    /** No shelf here ever has a point with this id. */
    private static final int ABSENT = 987654321;
    private static final int[] NO_COORDINATES = {-1, 16, Integer.MIN_VALUE, Integer.MAX_VALUE};

    interface Maker {
        PointShelf make();
    }

    interface Use {
        void on(PointShelf shelf);
    }

    record Refusal(String name, Class<? extends RuntimeException> thrown, Use use) {
    }

    private static final Check CHECK = new Check();

    public static void main(String[] args) {
        probesSeeChanges();
        shelvesHaveAll();
        onNewShelf();
        onShelfInUse();
        onShelfWithEmptyListing();
        onShelfWithoutCharge();
        onFullShelf();
        onShelfWithTooFewPages();
        CHECK.end("RefusedTest");
    }

    private static void onNewShelf() {
        sentence("on a new object");
        List<Refusal> refusals = refusedEverywhere();
        refusals.add(new Refusal("next()", NONE, PointShelf::next));
        refusals.add(new Refusal("nearest of none", NONE, s -> s.nearest(0, 0, 0, 1)));
        refusals.add(new Refusal("kept of none", NONE, s -> s.kept(0, 0, 0, 0, 0)));
        dueUnchanged(PointShelf::new, refusals);
    }

    private static void onShelfInUse() {
        sentence("with points, changes, corner, listing and charge");
        List<Refusal> refusals = refusedEverywhere();
        refusals.add(new Refusal("add of an id there", STATE, s -> s.add(Shelves.top(0), 1, 2, 3, 4)));
        refusals.add(new Refusal("add of the point itself", STATE, s -> s.add(Shelves.top(5), 3, 9, 14, 5)));
        refusals.add(new Refusal("add of a new one", STATE, s -> s.add(Shelves.below(20), 3, 9, 14, 5)));
        refusals.add(new Refusal("remove of one that went", NONE, s -> s.remove(Shelves.top(1))));
        refusals.add(new Refusal("recolour of one that went", NONE, s -> s.recolour(Shelves.top(1), 1)));
        refusals.add(new Refusal("field of one that went", NONE, s -> s.field(Shelves.top(1), 3)));
        refusals.add(new Refusal("nearest of one too many", NONE, s -> s.nearest(3, 9, 14, 14)));
        refusals.add(new Refusal("kept of a fourth", NONE, s -> s.kept(0, 0, 0, 0, 3)));
        refusals.add(new Refusal("kept in a cube without a node", NONE, s -> s.kept(1, 1, 1, 1, 0)));
        refusals.add(new Refusal("field 5 of a point there", ARGUMENT, s -> s.field(Shelves.top(0), 5)));
        refusals.add(new Refusal("field -1 of a point there", ARGUMENT, s -> s.field(Shelves.top(0), -1)));
        dueUnchanged(RefusedTest::shelfInUse, refusals);
    }

    private static void onShelfWithEmptyListing() {
        sentence("with a listing of which all ids were taken");
        List<Refusal> refusals = refusedEverywhere();
        refusals.add(new Refusal("next()", NONE, PointShelf::next));
        dueUnchanged(RefusedTest::shelfWithEmptyListing, refusals);
    }

    private static void onShelfWithoutCharge() {
        sentence("with a charge of 0, and after the power went");
        dueUnchanged(() -> {
            PointShelf shelf = shelfInUse();
            shelf.charge(0);
            return shelf;
        }, refusedEverywhere());
        dueUnchanged(() -> {
            PointShelf shelf = shelfInUse();
            Check.outcome(shelf::commit);
            return shelf;
        }, refusedEverywhere());
    }

    private static void onFullShelf() {
        sentence("with 48 points");
        List<Refusal> refusals = refusedEverywhere();
        refusals.add(new Refusal("add of the 49th", STATE, s -> s.add(ABSENT, 0, 0, 0, 0)));
        refusals.add(new Refusal("add of the greatest rank", STATE, s -> s.add(Shelves.below(0), 0, 0, 0, 0)));
        refusals.add(new Refusal("add of the least rank", STATE, s -> s.add(0, 15, 15, 15, 0)));
        refusals.add(new Refusal("add of an id there", STATE, s -> s.add(Shelves.top(47), 0, 0, 0, 0)));
        refusals.add(new Refusal("nearest of the 49th", NONE, s -> s.nearest(15, 15, 15, 49)));
        refusals.add(new Refusal("kept of the 37th", NONE, s -> s.kept(4, 6, 6, 6, 36)));
        dueUnchanged(RefusedTest::fullShelf, refusals);
    }

    private static void onShelfWithTooFewPages() {
        sentence("with 27 nodes to write and 26 pages free");
        List<Refusal> refusals = refusedEverywhere();
        refusals.add(new Refusal("commit()", STATE, PointShelf::commit));
        dueUnchanged(() -> shelfWithTooFewPages(99), refusals);
        sentence("with too few pages free and too little charge");
        dueUnchanged(() -> shelfWithTooFewPages(0), refusals);
        dueUnchanged(() -> shelfWithTooFewPages(27), refusals);
    }

    /** Column of 13 committed; one gone, one come, one recoloured since; a corner, half a listing, a charge of 3. */
    private static PointShelf shelfInUse() {
        PointShelf shelf = Shelves.column(13, 3, 9, 14);
        shelf.commit();
        shelf.remove(Shelves.top(1));
        shelf.add(Shelves.below(20), 15, 0, 7, -9);
        shelf.recolour(Shelves.top(5), 55);
        shelf.corner(5, 11, 13);
        shelf.box(0, 0, 15, 4);
        shelf.next();
        shelf.charge(3);
        return shelf;
    }

    private static PointShelf shelfWithEmptyListing() {
        PointShelf shelf = shelfInUse();
        for (int left = shelf.state(4); left > 0; left--) {
            shelf.next();
        }
        return shelf;
    }

    private static PointShelf fullShelf() {
        PointShelf shelf = Shelves.column(48, 6, 6, 6);
        shelf.commit();
        shelf.recolour(Shelves.top(47), 1);
        shelf.corner(6, 6, 6);
        shelf.box(6, 6, 6, 4);
        shelf.charge(50);
        return shelf;
    }

    private static PointShelf shelfWithTooFewPages(int charge) {
        PointShelf shelf = Shelves.wide();
        shelf.commit();
        Shelves.spoil(shelf, 27, 5);
        shelf.corner(15, 1, 2);
        shelf.box(0, 15, 15, 4);
        shelf.charge(charge);
        return shelf;
    }

    private static List<Refusal> refusedEverywhere() {
        List<Refusal> all = new ArrayList<>();
        for (int wrong : NO_COORDINATES) {
            addWrongPlaces(all, wrong);
        }
        for (int depth : new int[] {-1, 5, Integer.MIN_VALUE, Integer.MAX_VALUE}) {
            all.add(new Refusal("box to depth " + depth, ARGUMENT, s -> s.box(15, 15, 15, depth)));
            all.add(new Refusal("kept at depth " + depth, ARGUMENT, s -> s.kept(depth, 0, 0, 0, 0)));
            all.add(new Refusal("field " + depth, ARGUMENT, s -> s.field(ABSENT, depth)));
        }
        for (int k : new int[] {0, -1, Integer.MIN_VALUE}) {
            all.add(new Refusal("nearest by " + k, ARGUMENT, s -> s.nearest(0, 0, 0, k)));
        }
        for (int n : new int[] {-1, 100, Integer.MIN_VALUE, Integer.MAX_VALUE}) {
            all.add(new Refusal("charge " + n, ARGUMENT, s -> s.charge(n)));
        }
        all.add(new Refusal("remove of none", NONE, s -> s.remove(ABSENT)));
        all.add(new Refusal("recolour of none", NONE, s -> s.recolour(ABSENT, 7)));
        all.add(new Refusal("field of none", NONE, s -> s.field(ABSENT, 0)));
        all.add(new Refusal("nearest of 49", NONE, s -> s.nearest(0, 0, 0, 49)));
        all.add(new Refusal("kept at -1", NONE, s -> s.kept(0, 0, 0, 0, -1)));
        all.add(new Refusal("kept at 48", NONE, s -> s.kept(4, 6, 6, 6, 48)));
        return all;
    }

    private static void addWrongPlaces(List<Refusal> all, int wrong) {
        for (int axis = 0; axis < 3; axis++) {
            int x = axis == 0 ? wrong : 1;
            int y = axis == 1 ? wrong : 1;
            int z = axis == 2 ? wrong : 1;
            String place = "(" + x + ", " + y + ", " + z + ")";
            all.add(new Refusal("add at " + place, ARGUMENT, s -> s.add(ABSENT, x, y, z, 0)));
            all.add(new Refusal("corner at " + place, ARGUMENT, s -> s.corner(x, y, z)));
            all.add(new Refusal("box to " + place, ARGUMENT, s -> s.box(x, y, z, 4)));
            all.add(new Refusal("count to " + place, ARGUMENT, s -> s.count(x, y, z)));
            all.add(new Refusal("nearest to " + place, ARGUMENT, s -> s.nearest(x, y, z, 1)));
            all.add(new Refusal("kept in " + place, ARGUMENT, s -> s.kept(4, x, y, z, 0)));
        }
    }

    /** Of a shelf without a listing, a corner or a commit it could not be seen that a call took them away. */
    private static void shelvesHaveAll() {
        CHECK.sentence("the shelves themselves");
        String cornerOfNew = Probe.CORNER.read(new PointShelf(), knownIds());
        for (PointShelf shelf : new PointShelf[] {shelfInUse(), fullShelf(), shelfWithTooFewPages(27)}) {
            CHECK.due("has a listing", 1, shelf.state(4) > 0 ? 1 : 0);
            CHECK.due("has points committed", 1, shelf.state(5) > 0 ? 1 : 0);
            String corner = Probe.CORNER.read(shelf, knownIds());
            CHECK.due("has the corner of a new one", 0, corner.equals(cornerOfNew) ? 1 : 0);
        }
    }

    private static void dueUnchanged(Maker maker, List<Refusal> refusals) {
        int[] ids = knownIds();
        for (Probe probe : Probe.values()) {
            String want = probe.read(maker.make(), ids);
            for (Refusal refusal : refusals) {
                PointShelf shelf = maker.make();
                CHECK.dueThrow(refusal.name(), refusal.thrown(), () -> refusal.use().on(shelf));
                CHECK.due(refusal.name() + ", then " + probe, want, probe.read(shelf, ids));
            }
        }
    }

    /** A probe that could not see a change would let every refused call pass. */
    private static void probesSeeChanges() {
        CHECK.sentence("the probes themselves");
        dueSeen(Probe.STATES, PointShelf::next);
        dueSeen(Probe.POINTS, s -> s.recolour(Shelves.top(12), 1));
        dueSeen(Probe.POINTS, s -> s.add(ABSENT, 0, 0, 0, 0));
        dueSeen(Probe.TREE, s -> s.remove(Shelves.top(0)));
        dueSeen(Probe.LISTING, PointShelf::next);
        dueSeen(Probe.CORNER, s -> s.corner(4, 11, 13));
        dueSeen(Probe.CORNER, s -> s.corner(5, 12, 13));
        dueSeen(Probe.CORNER, s -> s.corner(5, 11, 14));
        dueSeen(Probe.CHARGE, s -> s.charge(2));
        dueSeen(Probe.CHARGE, s -> s.charge(4));
        dueSeen(Probe.COMMIT, s -> s.charge(2));
        dueSeen(Probe.OPEN, s -> {
            s.charge(99);
            s.commit();
        });
    }

    private static void dueSeen(Probe probe, Use change) {
        int[] ids = knownIds();
        String before = probe.read(shelfInUse(), ids);
        PointShelf shelf = shelfInUse();
        change.on(shelf);
        CHECK.due(probe + " sees a change", 0, before.equals(probe.read(shelf, ids)) ? 1 : 0);
    }

    private static int[] knownIds() {
        int[] ids = new int[50];
        for (int i = 0; i < 48; i++) {
            ids[i] = Shelves.top(i);
        }
        ids[48] = Shelves.below(20);
        ids[49] = ABSENT;
        return ids;
    }

    private static void sentence(String where) {
        CHECK.sentence("A call that throws IllegalArgumentException, IllegalStateException"
            + " or NoSuchElementException changes nothing: " + where);
    }
}
