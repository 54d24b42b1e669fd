import java.util.ArrayList;
import java.util.List;
import java.util.Map;
import java.util.Random;
import java.util.TreeMap;

/** Long runs of calls, the same ones every time, on the class and on the model of the document's words. */
public final class ModelTest {
    private static final int RUNS = 600;
    private static final int CALLS = 512;
    private static final int[] ODD_NUMBERS = {-1, 16, 15, 0, Integer.MIN_VALUE, Integer.MAX_VALUE, 5, 1 << 30};

    private final Check check = new Check();
    /** How often each call ended in which way, so that a way never taken is found out. */
    private final Map<String, Integer> seen = new TreeMap<>();
    private Random random;
    private PointShelf shelf;
    private ShelfModel model;
    private int run;
    private int call;
    private int spread;
    private int idSpread;

    public static void main(String[] args) {
        ModelTest test = new ModelTest();
        for (int run = 0; run < RUNS && test.check.allRight(); run++) {
            test.play(run);
        }
        if (test.check.allRight()) {
            test.checkWaysSeen();
        }
        test.check.end("ModelTest");
    }

    private void play(int number) {
        run = number;
        call = 0;
        random = new Random(7919L * number);
        shelf = new PointShelf();
        model = new ShelfModel();
        spread = new int[] {1, 2, 4, 16, 16}[number % 5];
        idSpread = number % 3 == 0 ? 0 : 70;
        if (number % 5 == 4) {
            fillWidely();
        }
        while (call < CALLS && check.allRight()) {
            step();
        }
    }

    private void step() {
        int kind = random.nextInt(100);
        if (kind < 30) {
            addSome();
        } else if (kind < 42) {
            int id = someId();
            compare("remove", "" + id, () -> shelf.remove(id), () -> model.remove(id));
        } else if (kind < 50) {
            recolourSome(random.nextInt(3));
        } else if (kind < 75) {
            look();
        } else if (kind < 92) {
            search();
        } else {
            keep();
        }
    }

    private void addSome() {
        int id = idSpread == 0 ? random.nextInt() : random.nextInt(idSpread) - idSpread / 2;
        add(id, coordinate(), coordinate(), coordinate(), random.nextInt(3));
    }

    private void add(int id, int x, int y, int z, int colour) {
        compare("add", id + ", " + x + ", " + y + ", " + z + ", " + colour,
            () -> shelf.add(id, x, y, z, colour), () -> model.add(id, x, y, z, colour));
    }

    private void recolourSome(int colour) {
        int id = someId();
        compare("recolour", id + ", " + colour, () -> shelf.recolour(id, colour), () -> model.recolour(id, colour));
    }

    private void look() {
        int kind = random.nextInt(3);
        if (kind == 0) {
            int id = someId();
            int f = random.nextInt(7) - 1;
            compare("field", id + ", " + f, () -> shelf.field(id, f), () -> model.field(id, f));
        } else if (kind == 1) {
            int what = random.nextInt(8) - 1;
            compare("state", "" + what, () -> shelf.state(what), () -> model.state(what));
        } else {
            lookAtCube();
        }
    }

    private void lookAtCube() {
        int depth = random.nextInt(16) == 0 ? oddNumber() : random.nextInt(5);
        int shift = 4 - Math.max(0, Math.min(4, depth));
        int cx = coordinate() >> shift;
        int cy = coordinate() >> shift;
        int cz = coordinate() >> shift;
        int i = random.nextInt(depth == 4 ? 12 : 5) - 1;
        compare("kept", depth + ", " + cx + ", " + cy + ", " + cz + ", " + i,
            () -> shelf.kept(depth, cx, cy, cz, i), () -> model.kept(depth, cx, cy, cz, i));
    }

    private void search() {
        int kind = random.nextInt(6);
        int x = coordinate();
        int y = coordinate();
        int z = coordinate();
        String place = x + ", " + y + ", " + z;
        if (kind == 0) {
            compareDeed("corner", place, () -> shelf.corner(x, y, z), () -> model.corner(x, y, z));
        } else if (kind == 1) {
            int depth = random.nextInt(7) - 1;
            compare("box", place + ", " + depth, () -> shelf.box(x, y, z, depth), () -> model.box(x, y, z, depth));
        } else if (kind == 2) {
            compare("count", place, () -> shelf.count(x, y, z), () -> model.count(x, y, z));
        } else if (kind == 3) {
            int k = random.nextInt(model.state(0) + 3);
            compare("nearest", place + ", " + k, () -> shelf.nearest(x, y, z, k), () -> model.nearest(x, y, z, k));
        } else {
            compare("next", "", shelf::next, model::next);
        }
    }

    private void keep() {
        int kind = random.nextInt(10);
        if (kind < 6) {
            compare("commit", "", shelf::commit, model::commit);
        } else if (kind < 8) {
            int n = random.nextInt(12) == 0 ? random.nextInt(200) - 50 : random.nextInt(30);
            compareDeed("charge", "" + n, () -> shelf.charge(n), () -> model.charge(n));
        } else if (kind < 9) {
            compare("open", "", shelf::open, model::open);
        } else {
            int id = random.nextInt();
            compare("rank", "" + id, () -> shelf.rank(id), () -> ShelfModel.rank(id));
        }
    }

    /** The tree that takes the most pages there can be, 38, so that a commit can lack free ones. */
    private void fillWidely() {
        List<int[]> places = WideTree.places();
        List<Integer> ids = new ArrayList<>();
        while (ids.size() < places.size()) {
            ids.add(idSpread == 0 ? random.nextInt() : ids.size() - idSpread / 2);
        }
        ids.sort((a, b) -> Long.compare(ShelfModel.rank(b), ShelfModel.rank(a)));
        for (int i = 0; i < places.size(); i++) {
            int[] place = places.get(i);
            add(ids.get(i), place[0], place[1], place[2], 0);
        }
        compare("commit", "", shelf::commit, model::commit);
        for (int i = 0; i < 60; i++) {
            recolourSome(7);
        }
        compare("commit", "", shelf::commit, model::commit);
    }

    private int someId() {
        List<Integer> ids = model.ids();
        if (ids.isEmpty() || random.nextInt(12) == 0) {
            return random.nextInt(100);
        }
        return ids.get(random.nextInt(ids.size()));
    }

    private int coordinate() {
        if (random.nextInt(60) == 0) {
            return oddNumber();
        }
        return spread == 16 ? random.nextInt(16) : 7 + random.nextInt(spread);
    }

    private int oddNumber() {
        return ODD_NUMBERS[random.nextInt(ODD_NUMBERS.length)];
    }

    private void compareDeed(String name, String values, Check.Deed real, Check.Deed due) {
        compare(name, values, () -> answerNothing(real), () -> answerNothing(due));
    }

    private static long answerNothing(Check.Deed deed) {
        deed.run();
        return 0;
    }

    private void compare(String name, String values, Check.Call real, Check.Call due) {
        call++;
        String want = Check.outcome(due);
        String got = Check.outcome(real);
        boolean threw = want.endsWith("Exception");
        seen.merge(name + (threw ? " " + want : ""), 1, Integer::sum);
        check.due("run " + run + ", call " + call + ": " + name + "(" + values + ")", want, got);
    }

    private void checkWaysSeen() {
        for (String way : List.of("add", "add IllegalArgumentException", "add IllegalStateException",
                "remove", "remove NoSuchElementException", "recolour", "recolour NoSuchElementException",
                "field", "field IllegalArgumentException", "field NoSuchElementException",
                "corner", "corner IllegalArgumentException", "box", "box IllegalArgumentException",
                "next", "next NoSuchElementException", "count", "count IllegalArgumentException",
                "nearest", "nearest IllegalArgumentException", "nearest NoSuchElementException",
                "kept", "kept IllegalArgumentException", "kept NoSuchElementException",
                "commit", "commit IllegalStateException", "commit UnsupportedOperationException",
                "charge", "charge IllegalArgumentException", "open", "state", "rank")) {
            check.due("the way '" + way + "' was seen", 1, seen.containsKey(way) ? 1 : 0);
        }
    }
}
