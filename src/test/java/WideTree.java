import java.util.ArrayList;
import java.util.List;

/** Places for 48 points of falling rank whose tree has the most nodes there can be: 38. */
final class WideTree {
    private WideTree() {
    }

    /**
     * The first 3 fill the root, the next 12 fill four cubes of depth 1 (those with z below 8),
     * 4 stand alone in the other four, and 29 stand alone in cubes of depth 2: 8, 8, 8 and 5.
     */
    static List<int[]> places() {
        List<int[]> places = new ArrayList<>();
        for (int i = 0; i < 3; i++) {
            places.add(new int[] {0, 0, 0});
        }
        for (int i = 0; i < 12; i++) {
            places.add(corner(i / 3));
        }
        for (int i = 4; i < 8; i++) {
            places.add(corner(i));
        }
        for (int i = 0; i < 29; i++) {
            int[] place = corner(i / 8);
            place[0] += i % 2 * 4;
            place[1] += i / 2 % 2 * 4;
            place[2] += i / 4 % 2 * 4;
            places.add(place);
        }
        return places;
    }

    private static int[] corner(int octant) {
        return new int[] {octant % 2 * 8, octant / 2 % 2 * 8, octant / 4 * 8};
    }
}
