import java.util.NoSuchElementException;

/** The sentences of the promises 1 to 16 that name a boundary case, each with a test of its own. */
public final class EdgeTest {
    private static final Class<IllegalArgumentException> ARGUMENT = IllegalArgumentException.class;
    private static final Class<IllegalStateException> STATE = IllegalStateException.class;
    private static final Class<NoSuchElementException> NONE = NoSuchElementException.class;
    private static final Class<UnsupportedOperationException> POWER = UnsupportedOperationException.class;
    private static final int LEAST = Integer.MIN_VALUE;
    private static final int MOST = Integer.MAX_VALUE;
    private static final int[] NO_COORDINATES = {-1, 16, LEAST, MOST};

    interface At {
        void place(int x, int y, int z);
    }

    private static final Check CHECK = new Check();

    public static void main(String[] args) {
        newObject();
        addAnswersDepth();
        addAtWrongPlace();
        addOfIdThere();
        addTo48();
        addFirstOfThem();
        removeAnswersDepth();
        removeNone();
        recolourAnswersOld();
        recolourNone();
        fields();
        noSuchField();
        fieldOfNone();
        cornerFromNowOn();
        cornerAtWrongPlace();
        boxToDepth();
        boxOfNone();
        boxToWrongPlace();
        boxToWrongDepth();
        nextTakesFirst();
        nextOfEmpty();
        counts();
        countToWrongPlace();
        nearestFromOneOn();
        nearestOfSameDistance();
        nearestToWrongPlace();
        nearestOfTooLittle();
        nearestOfTooMany();
        keptByRank();
        keptInNoCube();
        keptNoneThere();
        commitAnswersPages();
        commitWithTooFewPages();
        commitWithoutPower();
        chargeReplacesCharge();
        chargeNotNeeded();
        chargeStaysThroughOpen();
        chargeBounds();
        openTakesBack();
        openOfNothing();
        states();
        noSuchState();
        rankOfAnyId();
        CHECK.end("EdgeTest");
    }

    private static void newObject() {
        sentence("1: No points, nothing committed but that.");
        PointShelf shelf = new PointShelf();
        int[] states = {0, 0, 64, 0, 0, 0};
        for (int what = 0; what < states.length; what++) {
            due("state " + what, states[what], shelf.state(what));
        }
        due("count", 0, shelf.count(15, 15, 15));
        due("box", 0, shelf.box(15, 15, 15, 4));
        dueThrow("next", NONE, shelf::next);
        dueThrow("nearest", NONE, () -> shelf.nearest(0, 0, 0, 1));
        dueThrow("kept", NONE, () -> shelf.kept(0, 0, 0, 0, 0));
        dueThrow("remove", NONE, () -> shelf.remove(0));
        due("commit", 0, shelf.commit());
        due("open", 0, shelf.open());
        PointShelf other = new PointShelf();
        other.add(1, 0, 0, 0, 0);
        due("another object has its own points", 0, shelf.state(0));
    }

    private static void addAnswersDepth() {
        sentence("2: A point comes: its depth.");
        PointShelf shelf = new PointShelf();
        for (int i = 0; i < 48; i++) {
            due("of " + i, Math.min(i / 3, 4), shelf.add(Shelves.top(i), 15, 0, 15, 0));
        }
        PointShelf up = Shelves.column(13, 0, 0, 0);
        due("one of greater rank than those there", 0, up.add(Shelves.below(0), 0, 0, 0, 0));
        due("one between", 1, up.add(Shelves.below(2), 0, 0, 0, 0));
        due("one elsewhere", 1, up.add(Shelves.top(20), 15, 15, 15, 0));
    }

    private static void addAtWrongPlace() {
        sentence("2: IllegalArgumentException: a coordinate is not 0 .. 15.");
        PointShelf shelf = new PointShelf();
        dueWrongPlaces((x, y, z) -> shelf.add(1, x, y, z, 0));
        due("none came", 0, shelf.state(0));
        due("the least place", 0, shelf.add(1, 0, 0, 0, 0));
        due("the greatest place", 0, shelf.add(2, 15, 15, 15, 0));
    }

    private static void addOfIdThere() {
        sentence("2: IllegalStateException: there is a point with that id");
        PointShelf shelf = new PointShelf();
        for (int id : new int[] {LEAST, -1, 0, MOST}) {
            shelf.add(id, 1, 1, 1, 1);
            dueThrow("again " + id, STATE, () -> shelf.add(id, 2, 2, 2, 2));
            due("its x stays", 1, shelf.field(id, 0));
            due("its colour stays", 1, shelf.field(id, 3));
        }
        due("each came once", 4, shelf.state(0));
        shelf.commit();
        shelf.remove(0);
        due("a committed one that went may come, as the fourth by rank", 1, shelf.add(0, 2, 2, 2, 2));
        shelf.open();
        dueThrow("one that open brought back", STATE, () -> shelf.add(0, 2, 2, 2, 2));
    }

    private static void addTo48() {
        sentence("2: or there are 48.");
        PointShelf shelf = Shelves.wide();
        dueThrow("the 49th", STATE, () -> shelf.add(1, 0, 0, 0, 0));
        dueThrow("one of those there", STATE, () -> shelf.add(Shelves.top(0), 0, 0, 0, 0));
        due("48", 48, shelf.state(0));
        due("38 nodes", 38, shelf.state(1));
        shelf.remove(Shelves.top(47));
        due("47", 47, shelf.state(0));
        due("the 48th", 2, shelf.add(Shelves.top(48), 0, 0, 0, 0));
        dueThrow("the 49th again", STATE, () -> shelf.add(Shelves.top(47), 0, 0, 0, 0));
    }

    private static void addFirstOfThem() {
        sentence("2: (The first of them that is so, as below.)");
        PointShelf full = Shelves.wide();
        dueThrow("add: wrong place of an id there", ARGUMENT, () -> full.add(Shelves.top(0), 16, 0, 0, 0));
        dueThrow("add: wrong place of the 49th", ARGUMENT, () -> full.add(1, 0, 0, -1, 0));
        dueThrow("field: wrong one of no point", ARGUMENT, () -> full.field(1, 5));
        dueThrow("nearest: wrong place by 49", ARGUMENT, () -> full.nearest(0, 16, 0, 49));
        dueThrow("nearest: by 0 of no points", ARGUMENT, () -> new PointShelf().nearest(0, 0, 0, 0));
        dueThrow("kept: no cube, no place", ARGUMENT, () -> full.kept(0, 0, 0, 1, -1));
        full.commit();
        Shelves.spoil(full, 27, 1);
        full.charge(0);
        dueThrow("commit: too few pages, no charge", STATE, full::commit);
        due("commit: so nothing changes", 1, full.field(Shelves.top(19), 3));
    }

    private static void removeAnswersDepth() {
        sentence("3: A point goes: the depth that it had.");
        PointShelf shelf = Shelves.column(48, 9, 9, 9);
        for (int i = 47; i >= 0; i--) {
            due("of the last, " + i, Math.min(i / 3, 4), shelf.remove(Shelves.top(i)));
            due("so many left", i, shelf.state(0));
        }
        PointShelf other = Shelves.column(48, 9, 9, 9);
        for (int i = 0; i < 48; i++) {
            due("of the first, " + i, 0, other.remove(Shelves.top(i)));
        }
        due("none left", 0, other.state(0));
        PointShelf wide = Shelves.wide();
        due("of depth 1", 1, wide.remove(Shelves.top(3)));
        due("of the one that came up", 1, wide.remove(Shelves.top(19)));
        due("of one alone at depth 1", 1, wide.remove(Shelves.top(18)));
        due("of one in another cube", 2, wide.remove(Shelves.top(47)));
    }

    private static void removeNone() {
        sentence("3: NoSuchElementException: there is none with that id.");
        PointShelf shelf = new PointShelf();
        dueThrow("of an empty shelf", NONE, () -> shelf.remove(0));
        shelf.add(0, 0, 0, 0, 0);
        for (int id : new int[] {-1, 1, LEAST, MOST}) {
            dueThrow("another id, " + id, NONE, () -> shelf.remove(id));
        }
        due("none went", 1, shelf.state(0));
        due("the only one", 0, shelf.remove(0));
        dueThrow("again", NONE, () -> shelf.remove(0));
        shelf.add(5, 0, 0, 0, 0);
        shelf.open();
        dueThrow("one that open took back", NONE, () -> shelf.remove(5));
    }

    private static void recolourAnswersOld() {
        sentence("4: A point gets another colour: the one that it had.");
        PointShelf shelf = new PointShelf();
        shelf.add(1, 0, 0, 0, LEAST);
        due("the least", LEAST, shelf.recolour(1, MOST));
        due("the greatest", MOST, shelf.recolour(1, 0));
        due("0", 0, shelf.recolour(1, 0));
        due("the same again", 0, shelf.recolour(1, -1));
        due("as it is now", -1, shelf.field(1, 3));
    }

    private static void recolourNone() {
        sentence("4: NoSuchElementException: there is none with that id.");
        PointShelf shelf = new PointShelf();
        dueThrow("of an empty shelf", NONE, () -> shelf.recolour(0, 1));
        shelf.add(0, 0, 0, 0, 7);
        for (int id : new int[] {-1, 1, LEAST, MOST}) {
            dueThrow("another id, " + id, NONE, () -> shelf.recolour(id, 1));
        }
        due("the colour stays", 7, shelf.field(0, 3));
        shelf.remove(0);
        dueThrow("one that went", NONE, () -> shelf.recolour(0, 1));
    }

    private static void fields() {
        sentence("5: Of a point: its coordinates (f = 0, 1, 2), its colour (3), its depth (4).");
        PointShelf shelf = Shelves.column(12, 0, 15, 7);
        shelf.add(Shelves.top(12), 0, 15, 7, LEAST);
        int[] want = {0, 15, 7, LEAST, 4};
        for (int f = 0; f <= 4; f++) {
            due("field " + f, want[f], shelf.field(Shelves.top(12), f));
        }
        due("depth 0", 0, shelf.field(Shelves.top(0), 4));
    }

    private static void noSuchField() {
        sentence("5: IllegalArgumentException: f is none of these.");
        PointShelf shelf = Shelves.column(1, 1, 1, 1);
        for (int f : new int[] {-1, 5, LEAST, MOST}) {
            dueThrow("field " + f, ARGUMENT, () -> shelf.field(Shelves.top(0), f));
            dueThrow("field " + f + " of no point", ARGUMENT, () -> shelf.field(Shelves.top(1), f));
        }
    }

    private static void fieldOfNone() {
        sentence("5: NoSuchElementException: there is no point with that id.");
        PointShelf shelf = Shelves.column(1, 1, 1, 1);
        for (int f = 0; f <= 4; f++) {
            int asked = f;
            dueThrow("field " + f, NONE, () -> shelf.field(Shelves.top(1), asked));
            dueThrow("field " + f + " of an empty shelf", NONE, () -> new PointShelf().field(0, asked));
        }
    }

    private static void cornerFromNowOn() {
        sentence("6: The corner of boxes from now on.");
        PointShelf shelf = new PointShelf();
        shelf.add(0, 0, 0, 0, 0);
        shelf.add(15, 15, 15, 15, 0);
        shelf.corner(15, 15, 15);
        due("count from the greatest place", 1, shelf.count(1, 1, 1));
        due("box from it", 1, shelf.box(15, 15, 15, 4));
        shelf.corner(0, 0, 0);
        due("the listing is that of before", 15, shelf.next());
        due("count from the least place", 1, shelf.count(14, 14, 14));
        shelf.corner(0, 15, 0);
        shelf.add(1, 0, 15, 0, 0);
        shelf.add(2, 0, 14, 0, 0);
        shelf.commit();
        due("a commit leaves it", 2, shelf.count(0, 1, 0));
        shelf.remove(2);
        due("and so does a point that goes", 1, shelf.count(0, 1, 0));
    }

    private static void cornerAtWrongPlace() {
        sentence("6: IllegalArgumentException: a coordinate is not 0 .. 15.");
        PointShelf shelf = new PointShelf();
        shelf.add(1, 15, 0, 15, 0);
        shelf.corner(15, 0, 15);
        dueWrongPlaces(shelf::corner);
        due("the corner stays", 1, shelf.count(15, 0, 15));
        due("it alone", 1, shelf.box(15, 0, 15, 4));
    }

    private static void boxToDepth() {
        sentence("7: The points in the box from the corner to this place whose depth is at most so much");
        PointShelf shelf = Shelves.column(48, 0, 0, 15);
        int[] most = {3, 6, 9, 12, 48};
        for (int depth = 0; depth <= 4; depth++) {
            due("to depth " + depth, most[depth], shelf.box(0, 0, 15, depth));
            due("in the listing", most[depth], shelf.state(4));
        }
    }

    private static void boxOfNone() {
        sentence("7: become the listing: how many.");
        PointShelf shelf = Shelves.column(3, 15, 15, 15);
        due("all", 3, shelf.box(15, 15, 15, 0));
        due("short of all", 0, shelf.box(15, 15, 14, 4));
        due("the listing is empty, too", 0, shelf.state(4));
        dueThrow("so it has no first", NONE, shelf::next);
        shelf.corner(15, 15, 15);
        due("one place", 3, shelf.box(15, 15, 15, 0));
        shelf.next();
        due("a new listing has all again", 3, shelf.box(0, 0, 0, 4));
        due("all of them", 3, shelf.state(4));
    }

    private static void boxToWrongPlace() {
        sentence("7: IllegalArgumentException: a coordinate is not 0 .. 15");
        PointShelf shelf = Shelves.column(3, 15, 15, 15);
        due("to the greatest place", 3, shelf.box(15, 15, 15, 4));
        dueWrongPlaces((x, y, z) -> shelf.box(x, y, z, 4));
        due("the listing stays", 3, shelf.state(4));
        due("to the least place", 0, shelf.box(0, 0, 0, 4));
    }

    private static void boxToWrongDepth() {
        sentence("7: or depth not 0 .. 4.");
        PointShelf shelf = Shelves.column(13, 0, 0, 0);
        due("depth 4", 13, shelf.box(0, 0, 0, 4));
        for (int depth : new int[] {-1, 5, LEAST, MOST}) {
            dueThrow("depth " + depth, ARGUMENT, () -> shelf.box(0, 0, 0, depth));
            due("the listing stays", 13, shelf.state(4));
        }
        due("depth 0", 3, shelf.box(0, 0, 0, 0));
    }

    private static void nextTakesFirst() {
        sentence("8: The first id of the listing, which is taken from it.");
        PointShelf shelf = new PointShelf();
        for (int id = 0; id < 48; id++) {
            shelf.add(47 - id, 3, 3, 3, 0);
        }
        shelf.box(3, 3, 3, 4);
        for (int id = 0; id < 48; id++) {
            due("left before", 48 - id, shelf.state(4));
            due("the first", id, shelf.next());
        }
        due("none left", 0, shelf.state(4));
        due("the points stay", 48, shelf.state(0));
    }

    private static void nextOfEmpty() {
        sentence("8: NoSuchElementException: it is empty.");
        PointShelf shelf = Shelves.column(1, 0, 0, 0);
        dueThrow("before any box", NONE, shelf::next);
        shelf.box(0, 0, 0, 0);
        shelf.next();
        dueThrow("after the last one", NONE, shelf::next);
        dueThrow("and again", NONE, shelf::next);
        shelf.corner(1, 1, 1);
        shelf.box(1, 1, 1, 4);
        dueThrow("after an empty box", NONE, shelf::next);
        shelf.box(0, 0, 0, 0);
        shelf.open();
        dueThrow("after open", NONE, shelf::next);
        due("none, not less", 0, shelf.state(4));
    }

    private static void counts() {
        sentence("9: How many points are in the box from the corner to this place.");
        PointShelf shelf = Shelves.column(48, 15, 15, 15);
        due("all 48, of all depths", 48, shelf.count(15, 15, 15));
        due("none short of them", 0, shelf.count(14, 15, 15));
        shelf.corner(15, 15, 15);
        due("from their own place", 48, shelf.count(15, 15, 15));
        due("from their place on", 48, shelf.count(0, 0, 0));
        shelf.corner(14, 14, 14);
        due("from one before", 0, shelf.count(0, 0, 0));
        due("no listing is made", 0, shelf.state(4));
        due("of an empty shelf", 0, new PointShelf().count(15, 15, 15));
    }

    private static void countToWrongPlace() {
        sentence("9: IllegalArgumentException: a coordinate is not 0 .. 15.");
        PointShelf shelf = Shelves.column(2, 0, 0, 0);
        dueWrongPlaces(shelf::count);
        due("the least place", 2, shelf.count(0, 0, 0));
        due("the greatest place", 2, shelf.count(15, 15, 15));
    }

    private static void nearestFromOneOn() {
        sentence("10: The id of the k-th point (from 1 on) by its distance to this place");
        PointShelf shelf = new PointShelf();
        for (int i = 0; i < 48; i++) {
            shelf.add(100 - i, i % 16, i / 16, 0, 0);
        }
        due("the first from the least place", 100, shelf.nearest(0, 0, 0, 1));
        due("the last of 48 from there, by 225 + 4", 100 - 47, shelf.nearest(0, 0, 0, 48));
        due("the first from the greatest place", 100 - 47, shelf.nearest(15, 15, 15, 1));
        due("the last of 48 from there", 100, shelf.nearest(15, 15, 15, 48));
        due("its own place", 100 - 20, shelf.nearest(4, 1, 0, 1));
    }

    private static void nearestOfSameDistance() {
        sentence("10: of the same distance by ids, the lesser one first");
        PointShelf shelf = new PointShelf();
        int[] rising = {LEAST, -1, 0, 1, 2, MOST};
        int[][] places = {{8, 7, 7}, {6, 7, 7}, {7, 8, 7}, {7, 6, 7}, {7, 7, 8}, {7, 7, 6}};
        for (int i = 5; i >= 0; i--) {
            shelf.add(rising[i], places[i][0], places[i][1], places[i][2], 0);
        }
        shelf.add(-7, 7, 7, 9, 0);
        shelf.add(7, 7, 7, 7, 0);
        due("the nearest", 7, shelf.nearest(7, 7, 7, 1));
        for (int i = 0; i < 6; i++) {
            due("those around it", rising[i], shelf.nearest(7, 7, 7, 2 + i));
        }
        due("the farthest, though its id is lesser", -7, shelf.nearest(7, 7, 7, 8));
    }

    private static void nearestToWrongPlace() {
        sentence("10: IllegalArgumentException: a coordinate is not 0 .. 15");
        PointShelf shelf = Shelves.column(1, 0, 0, 0);
        dueWrongPlaces((x, y, z) -> shelf.nearest(x, y, z, 1));
        due("the least place", Shelves.top(0), shelf.nearest(0, 0, 0, 1));
        due("the greatest place", Shelves.top(0), shelf.nearest(15, 15, 15, 1));
    }

    private static void nearestOfTooLittle() {
        sentence("10: or k is less than 1.");
        PointShelf shelf = Shelves.column(2, 0, 0, 0);
        for (int k : new int[] {0, -1, LEAST}) {
            dueThrow("k " + k, ARGUMENT, () -> shelf.nearest(0, 0, 0, k));
            dueThrow("k " + k + " of none", ARGUMENT, () -> new PointShelf().nearest(0, 0, 0, k));
        }
        due("k 1", Math.min(Shelves.top(0), Shelves.top(1)), shelf.nearest(0, 0, 0, 1));
    }

    private static void nearestOfTooMany() {
        sentence("10: NoSuchElementException: there are fewer points.");
        for (int points : new int[] {0, 1, 2, 47, 48}) {
            PointShelf shelf = Shelves.column(points, 0, 0, 0);
            dueThrow("one more than " + points, NONE, () -> shelf.nearest(0, 0, 0, points + 1));
            dueThrow("far more than " + points, NONE, () -> shelf.nearest(0, 0, 0, MOST));
            if (points > 0) {
                due("the last of " + points, greatestTop(points), shelf.nearest(0, 0, 0, points));
            }
        }
    }

    private static int greatestTop(int points) {
        int greatest = LEAST;
        for (int i = 0; i < points; i++) {
            greatest = Math.max(greatest, Shelves.top(i));
        }
        return greatest;
    }

    private static void keptByRank() {
        sentence("11: The id that the node of a cube keeps at place i by rank (0 the greatest).");
        PointShelf shelf = new PointShelf();
        for (int i = 47; i >= 0; i--) {
            shelf.add(Shelves.top(i), 15, 15, 15, 0);
        }
        for (int i = 0; i < 48; i++) {
            int depth = Math.min(i / 3, 4);
            int cube = (1 << depth) - 1;
            due("of " + i, Shelves.top(i), shelf.kept(depth, cube, cube, cube, i - 3 * depth));
        }
    }

    private static void keptInNoCube() {
        sentence("11: IllegalArgumentException: there is no such cube.");
        PointShelf shelf = Shelves.column(48, 15, 15, 15);
        for (int depth = 0; depth <= 4; depth++) {
            int d = depth;
            int last = (1 << depth) - 1;
            due("the last cube", Shelves.top(3 * depth), shelf.kept(depth, last, last, last, 0));
            for (int wrong : new int[] {-1, last + 1, LEAST, MOST}) {
                dueThrow("cx " + wrong, ARGUMENT, () -> shelf.kept(d, wrong, last, last, 0));
                dueThrow("cy " + wrong, ARGUMENT, () -> shelf.kept(d, last, wrong, last, 0));
                dueThrow("cz " + wrong, ARGUMENT, () -> shelf.kept(d, last, last, wrong, 0));
            }
        }
        for (int wrong : new int[] {-1, 5, LEAST, MOST}) {
            dueThrow("depth " + wrong, ARGUMENT, () -> shelf.kept(wrong, 0, 0, 0, 0));
        }
    }

    private static void keptNoneThere() {
        sentence("11: NoSuchElementException: it keeps none there.");
        PointShelf shelf = Shelves.column(48, 15, 15, 15);
        for (int i : new int[] {-1, 3, LEAST, MOST}) {
            dueThrow("place " + i + " at depth 0", NONE, () -> shelf.kept(0, 0, 0, 0, i));
            dueThrow("place " + i + " at depth 3", NONE, () -> shelf.kept(3, 7, 7, 7, i));
        }
        for (int i : new int[] {-1, 36, LEAST, MOST}) {
            dueThrow("place " + i + " at depth 4", NONE, () -> shelf.kept(4, 15, 15, 15, i));
        }
        due("place 35 at depth 4", Shelves.top(47), shelf.kept(4, 15, 15, 15, 35));
        dueThrow("a cube that is not there", NONE, () -> shelf.kept(1, 0, 1, 1, 0));
        shelf.remove(Shelves.top(47));
        dueThrow("place 35 when one went", NONE, () -> shelf.kept(4, 15, 15, 15, 35));
    }

    private static void commitAnswersPages() {
        sentence("12: Commits: how many pages were written.");
        PointShelf shelf = new PointShelf();
        due("nothing", 0, shelf.commit());
        shelf.add(1, 0, 0, 0, 0);
        due("the least that has a node", 2, shelf.commit());
        due("nothing more", 0, shelf.commit());
        shelf.remove(1);
        due("the least there is", 1, shelf.commit());
        due("the most there is", 39, Shelves.wide().commit());
    }

    private static void commitWithTooFewPages() {
        sentence("12: IllegalStateException: there are not as many pages that the committed tree does not take.");
        PointShelf shelf = Shelves.wide();
        shelf.commit();
        Shelves.spoil(shelf, 27, 1);
        dueThrow("27 of 26", STATE, shelf::commit);
        due("not committed", 0, fieldAfterOpen(shelf, Shelves.top(19), 3));
        Shelves.spoil(shelf, 26, 1);
        due("26 of 26", 27, shelf.commit());
        due("committed", 1, fieldAfterOpen(shelf, Shelves.top(19), 3));
        for (int i = 0; i < 48; i++) {
            shelf.recolour(Shelves.top(i), 2);
        }
        dueThrow("38 of 26", STATE, shelf::commit);
        dueThrow("again", STATE, shelf::commit);
        due("written in all", 66, shelf.state(3));
        due("the present points stay", 2, shelf.field(Shelves.top(47), 3));
    }

    private static int fieldAfterOpen(PointShelf shelf, int id, int f) {
        shelf.open();
        return shelf.field(id, f);
    }

    private static void commitWithoutPower() {
        sentence("12: UnsupportedOperationException: the power went.");
        PointShelf shelf = Shelves.wide();
        shelf.charge(38);
        dueThrow("the root is behind the charge", POWER, shelf::commit);
        due("38 were written", 38, shelf.state(3));
        due("all points are gone with the power", 0, shelf.state(0));
        due("so nothing is to commit", 0, shelf.commit());
        PointShelf enough = Shelves.wide();
        enough.charge(39);
        due("the root is the last of the charge", 39, enough.commit());
        enough.recolour(Shelves.top(0), 1);
        dueThrow("none is left", POWER, enough::commit);
        due("none was written", 39, enough.state(3));
        due("the points of the commit before", 48, enough.state(0));
    }

    private static void chargeReplacesCharge() {
        sentence("13: n more pages can be written, whatever was told before");
        PointShelf shelf = Shelves.column(1, 0, 0, 0);
        shelf.charge(0);
        shelf.charge(2);
        due("more than before", 2, shelf.commit());
        shelf.charge(99);
        shelf.charge(1);
        shelf.recolour(Shelves.top(0), 5);
        dueThrow("less than before", POWER, shelf::commit);
        shelf.charge(3);
        shelf.recolour(Shelves.top(0), 6);
        due("after the power went", 2, shelf.commit());
        shelf.charge(3);
        shelf.recolour(Shelves.top(0), 7);
        due("not one more from before", 2, shelf.commit());
        shelf.recolour(Shelves.top(0), 8);
        dueThrow("so one is left", POWER, shelf::commit);
        due("pages in all: 2, 1, 2, 2, 1", 8, shelf.state(3));
    }

    private static void chargeNotNeeded() {
        sentence("13: (a commit that writes nothing needs none");
        PointShelf shelf = new PointShelf();
        shelf.charge(0);
        due("of an empty shelf", 0, shelf.commit());
        shelf.charge(2);
        shelf.add(1, 0, 0, 0, 0);
        due("all of the charge", 2, shelf.commit());
        due("and then none", 0, shelf.commit());
        due("and again", 0, shelf.commit());
        shelf.recolour(1, 1);
        dueThrow("the charge is 0 still", POWER, shelf::commit);
    }

    private static void chargeStaysThroughOpen() {
        sentence("13: open() changes nothing in that)");
        for (int n = 0; n <= 2; n++) {
            PointShelf shelf = Shelves.column(1, 0, 0, 0);
            shelf.charge(n);
            shelf.open();
            shelf.add(1, 0, 0, 0, 0);
            CHECK.due("two pages of " + n, n < 2 ? "UnsupportedOperationException" : "2", Check.outcome(shelf::commit));
        }
        PointShelf none = new PointShelf();
        none.open();
        none.add(1, 0, 0, 0, 0);
        due("no charge is none after open", 2, none.commit());
    }

    private static void chargeBounds() {
        sentence("13: IllegalArgumentException: n is not 0 .. 99.");
        PointShelf shelf = Shelves.column(1, 0, 0, 0);
        for (int wrong : new int[] {-1, 100, LEAST, MOST}) {
            dueThrow("charge " + wrong, ARGUMENT, () -> shelf.charge(wrong));
        }
        due("none of them is a charge", 2, shelf.commit());
        shelf.charge(99);
        for (int n = 1; n <= 49; n++) {
            shelf.recolour(Shelves.top(0), n);
            due("two pages of 99", 2, shelf.commit());
        }
        shelf.remove(Shelves.top(0));
        due("the 99th", 1, shelf.commit());
        shelf.add(1, 0, 0, 0, 0);
        dueThrow("the 100th", POWER, shelf::commit);
        due("99 and the two before", 101, shelf.state(3));
        shelf.charge(0);
        shelf.add(1, 0, 0, 0, 0);
        dueThrow("charge 0", POWER, shelf::commit);
    }

    private static void openTakesBack() {
        sentence("14: The points are those of the committed tree again, with their colours;"
            + " the listing is empty, the corner 0, 0, 0: how many points there are.");
        PointShelf shelf = Shelves.column(48, 2, 2, 2);
        shelf.commit();
        for (int i = 0; i < 48; i++) {
            shelf.remove(Shelves.top(i));
        }
        due("a full shelf", 48, shelf.open());
        for (int i = 0; i < 48; i++) {
            due("the colour of " + i, i, shelf.field(Shelves.top(i), 3));
            due("the depth of " + i, Math.min(i / 3, 4), shelf.field(Shelves.top(i), 4));
        }
        for (int i = 0; i < 48; i++) {
            shelf.recolour(Shelves.top(i), -1);
        }
        shelf.corner(15, 15, 15);
        shelf.box(2, 2, 2, 4);
        due("and again", 48, shelf.open());
        for (int i = 0; i < 48; i++) {
            due("the colour of " + i + " again", i, shelf.field(Shelves.top(i), 3));
        }
        due("the listing", 0, shelf.state(4));
        due("the corner", 0, shelf.count(1, 1, 1));
        due("from 0, 0, 0 on", 48, shelf.count(2, 2, 2));
        due("pages in all", 11, shelf.state(3));
        PointShelf corner = Shelves.aroundLeastPlace();
        corner.commit();
        corner.corner(1, 1, 1);
        due("from 1, 1, 1", 4, corner.count(0, 0, 0));
        corner.open();
        due("from 0, 0, 0", 1, corner.count(0, 0, 0));
    }

    private static void openOfNothing() {
        sentence("14: how many points there are.");
        PointShelf shelf = new PointShelf();
        due("of a new object", 0, shelf.open());
        shelf.add(1, 0, 0, 0, 0);
        due("what was never committed", 0, shelf.open());
        shelf.add(1, 0, 0, 0, 0);
        shelf.commit();
        due("what was", 1, shelf.open());
        shelf.remove(1);
        shelf.commit();
        due("what went with a commit", 0, shelf.open());
    }

    private static void states() {
        sentence("15: 0 how many points there are, 1 how many nodes, 2 how many pages the committed tree does not take,"
            + " 3 how many pages were written in all (also those before the power went),"
            + " 4 how many ids are in the listing, 5 how many points are committed");
        PointShelf shelf = Shelves.wide();
        dueStates(shelf, 48, 38, 64, 0, 0, 0);
        shelf.commit();
        shelf.box(15, 15, 15, 4);
        dueStates(shelf, 48, 38, 26, 39, 48, 48);
        shelf.next();
        shelf.remove(Shelves.top(47));
        dueStates(shelf, 47, 37, 26, 39, 47, 48);
        shelf.charge(2);
        dueThrow("the power goes", POWER, shelf::commit);
        dueStates(shelf, 48, 38, 26, 41, 0, 48);
    }

    private static void dueStates(PointShelf shelf, int... want) {
        for (int what = 0; what < want.length; what++) {
            due("state " + what, want[what], shelf.state(what));
        }
    }

    private static void noSuchState() {
        sentence("15: -1 for another what.");
        PointShelf shelf = Shelves.wide();
        for (int what : new int[] {-1, 6, LEAST, MOST}) {
            due("state " + what, -1, shelf.state(what));
            due("state " + what + " of a new object", -1, new PointShelf().state(what));
        }
    }

    private static void rankOfAnyId() {
        sentence("16: The rank of an id, whether it is a point's or not.");
        PointShelf shelf = new PointShelf();
        for (int id : new int[] {LEAST, -1, 0, 1, MOST}) {
            due("of no point, " + id, ShelfModel.rank(id), shelf.rank(id));
            shelf.add(id, 0, 0, 0, 0);
            due("of a point, " + id, ShelfModel.rank(id), shelf.rank(id));
            shelf.remove(id);
            due("of one that went, " + id, ShelfModel.rank(id), shelf.rank(id));
        }
        due("the least rank", 0, shelf.rank(Shelves.idOfRank(0)));
        due("the greatest rank", 4294967295L, shelf.rank(Shelves.idOfRank(4294967295L)));
    }

    /** Each coordinate by itself just outside, and far outside; the other two are right, at both ends. */
    private static void dueWrongPlaces(At at) {
        for (int wrong : NO_COORDINATES) {
            for (int right : new int[] {0, 15}) {
                dueThrow("x " + wrong, ARGUMENT, () -> at.place(wrong, right, right));
                dueThrow("y " + wrong, ARGUMENT, () -> at.place(right, wrong, right));
                dueThrow("z " + wrong, ARGUMENT, () -> at.place(right, right, wrong));
            }
        }
    }

    private static void sentence(String words) {
        CHECK.sentence(words);
    }

    private static void due(String what, long want, long got) {
        CHECK.due(what, want, got);
    }

    private static void dueThrow(String what, Class<? extends RuntimeException> want, Check.Deed deed) {
        CHECK.dueThrow(what, want, deed);
    }
}
