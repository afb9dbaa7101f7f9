/** Runs of calls that tests begin with. */
final class Scenes {
    static final int BYTES = 0, INTS = 1;

    private Scenes() {
    }

    /**
     * 3 and 3, OF ROADS: CHANCE ones 1, 4 and 9; 2 a TWIN of 4, 7 AGAINST 9; 11 SHUT; 0, 3, 5, 6, 8 and 10
     * SURE. THE TRACE has begun, and there are the sheets below.
     */
    static void roads(OpenGrounds x) {
        x.ground(3, 3, false);
        x.kind(1, 2);
        x.kind(4, 2);
        x.kind(9, 2);
        x.twin(2, 4, false);
        x.twin(7, 9, true);
        x.kind(11, 0);
        x.opens(7, 5);
        sheets(x);
    }

    /** 3 and 4, OF PLACES: CHANCE ones 2 and 5; 6 a TWIN of 5, 0 AGAINST 2; 11 SHUT; the others SURE. */
    static void places(OpenGrounds x) {
        x.ground(3, 4, true);
        x.kind(2, 2);
        x.kind(5, 2);
        x.twin(6, 5, false);
        x.twin(0, 2, true);
        x.kind(11, 0);
        x.opens(6, 1);
        sheets(x);
    }

    /** 5 and 5, OF ROADS: 40 THINGS, 0 .. 11 CHANCE ones; 12 a TWIN of 0, 13 AGAINST 11; 14 SHUT; the others SURE. */
    static void full(OpenGrounds x) {
        x.ground(5, 5, false);
        chances(x, 12);
        x.twin(12, 0, false);
        x.twin(13, 11, true);
        x.kind(14, 0);
    }

    /** The first m THINGS become CHANCE ones. */
    static void chances(OpenGrounds x, int m) {
        for (int thing = 0; thing < m; thing++) {
            x.kind(thing, 2);
        }
    }

    /** All THINGS become of one KIND. */
    static void all(OpenGrounds x, int kind) {
        int things = x.told(3);
        for (int thing = 0; thing < things; thing++) {
            x.kind(thing, kind);
        }
    }

    /**
     * 5 and 5, OF ROADS: from the first column to the last there is one way, over twelve CHANCE ones; all
     * other ROADS are SHUT.
     */
    static void series(OpenGrounds x) {
        x.ground(5, 5, false);
        all(x, 0);
        for (int thing : new int[] {0, 2, 3, 17, 21, 22, 26, 27, 31, 32, 36, 37}) {
            x.kind(thing, 2);
        }
    }

    /**
     * SHEET 0 of BYTES: ROW 0 of 40 numbers, ROW 1 of none, ROW 2 MISSING, ROW 3 of 2, 0, 1.
     * SHEET 1 of INTS: ROW 0 of 1, 2, 0, 2, 1, ROW 1 MISSING. No SHEET 2.
     */
    static void sheets(OpenGrounds x) {
        x.sheet(0, BYTES, 4);
        x.row(0, 0, 40);
        x.put(0, BYTES, 0, 0, 1);
        x.put(0, BYTES, 0, 20, 2);
        x.put(0, BYTES, 0, 39, 2);
        x.row(0, 1, 0);
        fill(x, 0, BYTES, 3, 2, 0, 1);
        x.sheet(1, INTS, 2);
        fill(x, 1, INTS, 0, 1, 2, 0, 2, 1);
    }

    static void fill(OpenGrounds x, int sheet, int sort, int r, int... numbers) {
        x.row(sheet, r, numbers.length);
        for (int i = 0; i < numbers.length; i++) {
            x.put(sheet, sort, r, i, numbers[i]);
        }
    }
}
