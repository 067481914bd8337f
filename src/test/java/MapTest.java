/** Promises 12 to 14: the maps of the devices. */
public final class MapTest {
    private static final int BAD = -1, NO = -2, NONE = -4;
    private static final Check CHECK = new Check("MapTest");

    public static void main(String[] args) {
        badMaps();
        maps();
        overlaps();
        unmap();
        mapped();
        CHECK.finish();
    }

    private static void due(String call, int got, int want) {
        CHECK.due(call, got, want);
    }

    private static void badMaps() {
        PassingFrames x = new PassingFrames();
        int[][] calls = {
            {-1, 0, 0, 1, 0}, {4, 0, 0, 1, 0}, {0, -1, 0, 1, 4}, {0, 2, 0, 1, 4}, {0, 0, -1, 1, 0}, {0, 0, 32, 1, 0},
            {0, 0, 0, 0, 0}, {0, 0, 0, 9, 0}, {0, 0, 31, 2, 0}, {0, 0, 25, 8, 0}, {0, 0, 0, 1, -1}, {0, 0, 0, 1, 16},
            {0, 0, 0, 2, 15}, {0, 0, 0, 8, 9}, {0, 1, 0, 1, 3}, {0, 1, 0, 1, 0}, {0, 1, 0, 8, 9}, {0, 1, 0, 1, 16},
            {0, 0, Integer.MAX_VALUE, 1, 0}, {0, 0, 0, Integer.MAX_VALUE, 0}, {0, 0, 0, 1, Integer.MAX_VALUE},
            {0, 0, 0, Integer.MIN_VALUE, 0}, {0, 0, 31, Integer.MIN_VALUE, 15}};
        for (int[] c : calls) {
            String call = "map(" + c[0] + ", " + c[1] + ", " + c[2] + ", " + c[3] + ", " + c[4] + ")";
            due(call, x.map(c[0], c[1], c[2], c[3], c[4]), BAD);
        }
        for (int d = 0; d < 4; d++) {
            due("nothing is set", x.mapped(d, 0, 0), NONE);
            due("nothing is set", x.mapped(d, 1, 0), NONE);
        }
    }

    private static void maps() {
        PassingFrames x = new PassingFrames();
        due("map(0, 0, 31, 1, 15)", x.map(0, 0, 31, 1, 15), 0);
        due("map(0, 0, 24, 8, 8)", x.map(0, 0, 24, 8, 8), 1);
        due("map(0, 1, 24, 8, 8)", x.map(0, 1, 24, 8, 8), 0);
        due("map(0, 1, 0, 8, 4)", x.map(0, 1, 0, 8, 4), 1);
        due("mapped(0, 0, 0)", x.mapped(0, 0, 0), 24);
        due("mapped(0, 0, 1)", x.mapped(0, 0, 1), 8);
        due("mapped(0, 0, 2)", x.mapped(0, 0, 2), 8);
        due("mapped(0, 1, 0)", x.mapped(0, 1, 0), 0);
        due("mapped(0, 1, 1)", x.mapped(0, 1, 1), 8);
        due("mapped(0, 1, 2)", x.mapped(0, 1, 2), 4);
        due("a map of its own may be moved by one", x.map(0, 1, 1, 8, 4), 1);
        due("mapped(0, 1, 0) then", x.mapped(0, 1, 0), 1);
        due("no time passes", x.count(1), 0);
    }

    private static void overlaps() {
        PassingFrames x = new PassingFrames();
        due("map(1, 0, 10, 4, 0)", x.map(1, 0, 10, 4, 0), 0);
        due("from below into it", x.map(0, 0, 7, 4, 0), NO);
        due("up to it", x.map(0, 0, 6, 4, 0), 0);
        due("its last place", x.map(2, 0, 13, 1, 0), NO);
        due("behind it", x.map(2, 0, 14, 1, 0), 0);
        due("around it", x.map(3, 0, 9, 8, 0), NO);
        due("within it", x.map(3, 0, 11, 1, 0), NO);
        due("the same", x.map(3, 0, 10, 4, 0), NO);
        due("the other sort", x.map(3, 1, 10, 4, 4), 0);
        due("the other sort of another", x.map(1, 1, 13, 1, 4), NO);
        due("BAD comes before NO", x.map(3, 0, 10, 4, 13), BAD);
        due("a refused one changes nothing", x.map(0, 0, 7, 4, 0), NO);
        due("mapped(0, 0, 0)", x.mapped(0, 0, 0), 6);
        due("unmap(1, 0)", x.unmap(1, 0), 1);
        due("then its places are free", x.map(3, 0, 10, 4, 0), 0);
        due("map(0, 1, 0, 1, 4) of device 0", x.map(0, 1, 0, 1, 4), 0);
        due("its place", x.map(2, 1, 0, 2, 4), NO);
        x.cut(0, 1);
        x.cut(4, 1);
        due("also a device on no side has its places", x.map(1, 0, 10, 1, 0), NO);
    }

    private static void unmap() {
        PassingFrames x = new PassingFrames();
        due("unmap(-1, 0)", x.unmap(-1, 0), BAD);
        due("unmap(4, 0)", x.unmap(4, 0), BAD);
        due("unmap(0, -1)", x.unmap(0, -1), BAD);
        due("unmap(0, 2)", x.unmap(0, 2), BAD);
        due("unmap(0, 0)", x.unmap(0, 0), NO);
        x.map(0, 0, 0, 1, 0);
        due("unmap(0, 1)", x.unmap(0, 1), NO);
        due("unmap(1, 0)", x.unmap(1, 0), NO);
        due("unmap(0, 0)", x.unmap(0, 0), 1);
        due("unmap(0, 0) again", x.unmap(0, 0), NO);
        due("mapped(0, 0, 0)", x.mapped(0, 0, 0), NONE);
        due("map(0, 0, 0, 1, 0)", x.map(0, 0, 0, 1, 0), 0);
    }

    private static void mapped() {
        PassingFrames x = new PassingFrames();
        due("mapped(-1, 0, 0)", x.mapped(-1, 0, 0), BAD);
        due("mapped(4, 0, 0)", x.mapped(4, 0, 0), BAD);
        due("mapped(0, -1, 0)", x.mapped(0, -1, 0), BAD);
        due("mapped(0, 2, 0)", x.mapped(0, 2, 0), BAD);
        due("mapped(0, 0, -1)", x.mapped(0, 0, -1), BAD);
        due("mapped(0, 0, 3)", x.mapped(0, 0, 3), BAD);
        due("mapped(0, 0, 2)", x.mapped(0, 0, 2), NONE);
        x.map(0, 0, 5, 3, 13);
        due("mapped(0, 0, 0)", x.mapped(0, 0, 0), 5);
        due("mapped(0, 0, 1)", x.mapped(0, 0, 1), 3);
        due("mapped(0, 0, 2)", x.mapped(0, 0, 2), 13);
        due("mapped(0, 0, 3)", x.mapped(0, 0, 3), BAD);
        due("mapped(0, 1, 0)", x.mapped(0, 1, 0), NONE);
        due("mapped(1, 0, 0)", x.mapped(1, 0, 0), NONE);
    }
}
