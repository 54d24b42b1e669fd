/**
 * Ways to read out a shelf, each of them one part of all that can be known of it. Most of them
 * change the shelf, and an object answers for 512 calls only, so each one is for a shelf of its own.
 */
enum Probe {
    STATES {
        @Override
        String read(PointShelf shelf, int[] ids) {
            return states(shelf);
        }
    },
    POINTS {
        @Override
        String read(PointShelf shelf, int[] ids) {
            return points(shelf, ids);
        }
    },
    TREE {
        @Override
        String read(PointShelf shelf, int[] ids) {
            return shelf.state(1) + ":" + tree(shelf);
        }
    },
    LISTING {
        @Override
        String read(PointShelf shelf, int[] ids) {
            return listing(shelf);
        }
    },
    CORNER {
        @Override
        String read(PointShelf shelf, int[] ids) {
            return corner(shelf);
        }
    },
    CHARGE {
        @Override
        String read(PointShelf shelf, int[] ids) {
            return charge(shelf);
        }
    },
    COMMIT {
        @Override
        String read(PointShelf shelf, int[] ids) {
            return Check.outcome(shelf::commit) + states(shelf) + points(shelf, ids);
        }
    },
    OPEN {
        @Override
        String read(PointShelf shelf, int[] ids) {
            return shelf.open() + states(shelf) + points(shelf, ids);
        }
    };

    private static final int MOST_POINTS = 48;

    /** What the shelf answers; the ids are all those that its points may have. */
    abstract String read(PointShelf shelf, int[] ids);

    private static String states(PointShelf shelf) {
        StringBuilder text = new StringBuilder();
        for (int what = 0; what <= 5; what++) {
            text.append(' ').append(shelf.state(what));
        }
        return text.toString();
    }

    private static String points(PointShelf shelf, int[] ids) {
        StringBuilder text = new StringBuilder();
        for (int id : ids) {
            text.append(' ').append(id);
            String x = Check.outcome(() -> shelf.field(id, 0));
            text.append(' ').append(x);
            for (int f = 1; f <= 4 && !x.endsWith("Exception"); f++) {
                text.append(' ').append(shelf.field(id, f));
            }
        }
        return text.toString();
    }

    /** All that is kept at depth 0 and 1, by cube and place. */
    private static String tree(PointShelf shelf) {
        StringBuilder text = new StringBuilder();
        for (int octant = -1; octant < 8; octant++) {
            int depth = octant < 0 ? 0 : 1;
            int cube = Math.max(octant, 0);
            for (int i = 0; i <= 3; i++) {
                int place = i;
                text.append(' ').append(Check.outcome(
                    () -> shelf.kept(depth, cube % 2, cube / 2 % 2, cube / 4, place)));
            }
        }
        return text.toString();
    }

    private static String listing(PointShelf shelf) {
        StringBuilder text = new StringBuilder();
        for (int left = shelf.state(4); left > 0; left--) {
            text.append(' ').append(shelf.next());
        }
        return text.append(' ').append(Check.outcome(shelf::next)).toString();
    }

    /** With points along the three axes alone, the box from the corner to 0, 0, 0 has those up to the corner's own. */
    private static String corner(PointShelf shelf) {
        for (int left = shelf.state(0); left > 0; left--) {
            shelf.remove(shelf.nearest(0, 0, 0, 1));
        }
        for (int i = 0; i < MOST_POINTS; i++) {
            int far = i % 16;
            shelf.add(i, i < 16 ? far : 0, i >= 16 && i < 32 ? far : 0, i >= 32 ? far : 0, 0);
        }
        shelf.box(0, 0, 0, 4);
        return listing(shelf);
    }

    /** Commits of two pages each until the power goes: no charge is enough for 60 of them. */
    private static String charge(PointShelf shelf) {
        int before = shelf.state(3);
        if (shelf.open() == 0) {
            shelf.add(0, 0, 0, 0, -1);
        }
        int id = shelf.kept(0, 0, 0, 0, 0);
        for (int n = 0; n < 60; n++) {
            shelf.recolour(id, 1_000_000 + n);
            if (Check.outcome(shelf::commit).equals("UnsupportedOperationException")) {
                return " gone after " + (shelf.state(3) - before);
            }
        }
        return " no charge";
    }
}
