/** Promises 12 to 19: counts over settings. */
public final class CountTest {
    private static final Due due = new Due("CountTest");
    private static final int BAD = -1, STATE = -2, NONE = -9;
    private static final int[] CHOOSE_12 = {1, 12, 66, 220, 495, 792, 924, 792, 495, 220, 66, 12, 1};

    public static void main(String[] args) {
        squareOfRoads();
        squareOfPlaces();
        against();
        rowOfPlaces();
        twelve();
        wallsAreWhereNoWayIs();
        chances();
        refused();
        noChanceOne();
        due.end();
    }

    private static void dueBySize(String what, int[] got, int... want) {
        for (int k = 0; k < want.length; k++) {
            due.is(what + " of size " + k, got[k], want[k]);
        }
    }

    private static int[] counts(OpenGrounds x, int way) {
        int[] all = new int[x.told(4) + 1];
        for (int k = 0; k < all.length; k++) {
            all[k] = x.count(way, k);
        }
        return all;
    }

    private static int[] walls(OpenGrounds x, int way) {
        int[] all = new int[x.told(4) + 1];
        for (int k = 0; k < all.length; k++) {
            all[k] = x.walls(way, k);
        }
        return all;
    }

    private static int[] joined(OpenGrounds x, int a, int b) {
        int[] all = new int[x.told(4) + 1];
        for (int k = 0; k < all.length; k++) {
            all[k] = x.joined(a, b, k);
        }
        return all;
    }

    private static int[] sized(OpenGrounds x, int place, int n) {
        int[] all = new int[x.told(4) + 1];
        for (int k = 0; k < all.length; k++) {
            all[k] = x.sized(place, n, k);
        }
        return all;
    }

    private static int[] heapSums(OpenGrounds x) {
        int[] all = new int[x.told(4) + 1];
        for (int k = 0; k < all.length; k++) {
            all[k] = x.heapSum(k);
        }
        return all;
    }

    private static int[] firsts(OpenGrounds x, int way) {
        int[] all = new int[x.told(4) + 1];
        for (int k = 0; k < all.length; k++) {
            all[k] = x.first(way, k);
        }
        return all;
    }

    private static void allChance(OpenGrounds x, int n) {
        for (int thing = 0; thing < n; thing++) {
            x.kind(thing, 2);
        }
    }

    /** A ring of four roads: 0 above, 1 below, 2 left, 3 right. */
    private static void squareOfRoads() {
        OpenGrounds x = new OpenGrounds();
        allChance(x, 4);
        dueBySize("12: right", counts(x, 0), 0, 2, 5, 4, 1);
        dueBySize("12: down", counts(x, 1), 0, 2, 5, 4, 1);
        dueBySize("12: both", counts(x, 2), 0, 0, 4, 4, 1);
        dueBySize("12: one at least", counts(x, 3), 0, 4, 6, 4, 1);
        dueBySize("13: wall 0", walls(x, 0), 1, 2, 1, 0, 0);
        dueBySize("13: wall 1", walls(x, 1), 1, 2, 1, 0, 0);
        dueBySize("14: neighbours", joined(x, 0, 1), 0, 1, 3, 4, 1);
        dueBySize("14: over the corner", joined(x, 1, 2), 0, 0, 2, 4, 1);
        dueBySize("14: with itself", joined(x, 3, 3), 1, 4, 6, 4, 1);
        dueBySize("15: alone", sized(x, 0, 1), 1, 2, 1, 0, 0);
        dueBySize("15: of two", sized(x, 0, 2), 0, 2, 2, 0, 0);
        dueBySize("15: of three", sized(x, 0, 3), 0, 0, 3, 0, 0);
        dueBySize("15: of four", sized(x, 0, 4), 0, 0, 0, 4, 1);
        dueBySize("15: of none", sized(x, 0, 0), 0, 0, 0, 0, 0);
        dueBySize("15: of 25", sized(x, 0, 25), 0, 0, 0, 0, 0);
        dueBySize("16: heaps", heapSums(x), 4, 12, 12, 4, 1);
        due.is("18: above, right", x.pivot(0, 0), 4);
        due.is("18: left, right", x.pivot(0, 2), 0);
        due.is("18: left, both", x.pivot(2, 2), 3);
        due.is("18: left, one at least", x.pivot(3, 2), 1);
        dueBySize("19: right", firsts(x, 0), NONE, 1, 3, 7, 15);
        dueBySize("19: down", firsts(x, 1), NONE, 4, 5, 7, 15);
        dueBySize("19: both", firsts(x, 2), NONE, NONE, 5, 7, 15);
        dueBySize("19: one at least", firsts(x, 3), NONE, 1, 3, 7, 15);
    }

    private static void squareOfPlaces() {
        OpenGrounds x = new OpenGrounds();
        x.ground(2, 2, true);
        allChance(x, 4);
        dueBySize("12: right", counts(x, 0), 0, 0, 2, 4, 1);
        dueBySize("12: both", counts(x, 2), 0, 0, 0, 4, 1);
        dueBySize("12: one at least", counts(x, 3), 0, 0, 4, 4, 1);
        dueBySize("14: neighbours", joined(x, 2, 3), 0, 0, 1, 2, 1);
        dueBySize("14: over the corner", joined(x, 0, 3), 0, 0, 0, 2, 1);
        dueBySize("14: with itself", joined(x, 1, 1), 0, 1, 3, 3, 1);
        dueBySize("15: not OPEN", sized(x, 3, 0), 1, 3, 3, 1, 0);
        dueBySize("15: alone", sized(x, 3, 1), 0, 1, 1, 0, 0);
        dueBySize("15: of three", sized(x, 3, 3), 0, 0, 0, 3, 0);
        dueBySize("16: heaps", heapSums(x), 0, 4, 8, 4, 1);
        due.is("18: right", x.pivot(0, 3), 3);
        dueBySize("19: right", firsts(x, 0), NONE, NONE, 3, 7, 15);
        dueBySize("19: down", firsts(x, 1), NONE, NONE, 5, 7, 15);
    }

    /** A thing AGAINST another makes a way end where more is open. */
    private static void against() {
        OpenGrounds x = new OpenGrounds();
        x.ground(1, 4, false);
        x.kind(0, 2);
        x.kind(1, 2);
        x.twin(2, 1, true);
        dueBySize("12: never both", counts(x, 0), 0, 0, 0);
        x.kind(1, 1);
        x.kind(2, 2);
        x.twin(1, 2, true);
        x.kind(2, 2);
        dueBySize("12: never both", counts(x, 0), 0, 0, 0);
        x.twin(1, 0, false);
        dueBySize("12: by 0 and its TWIN, and 2", counts(x, 0), 0, 0, 1);

        x.ground(1, 3, false);
        x.kind(1, 2);
        x.twin(0, 1, true);
        dueBySize("12: cannot be", counts(x, 0), 0, 0);
        dueBySize("13: always", walls(x, 0), 1, 1);
        x.ground(1, 2, true);
        x.kind(1, 2);
        x.twin(0, 1, true);
        due.is("18: lost by down too", x.pivot(1, 0), 0);
        dueBySize("12: one of both is OPEN", counts(x, 1), 1, 1);

        x.ground(2, 2, false);
        x.kind(0, 2);
        x.twin(1, 0, true);
        x.kind(2, 0);
        x.kind(3, 0);
        dueBySize("12: above or below", counts(x, 0), 1, 1);
        due.is("18: below comes, above goes", x.pivot(0, 0), 0);
        dueBySize("19: the least", firsts(x, 0), 0, 1);
        x.kind(1, 0);
        x.kind(0, 1);
        x.kind(2, 2);
        x.twin(0, 2, true);
        dueBySize("12: but with its WAY", counts(x, 0), 1, 0);
        dueBySize("19: but with its WAY", firsts(x, 0), 0, NONE);
    }

    private static void rowOfPlaces() {
        OpenGrounds x = new OpenGrounds();
        x.ground(1, 5, true);
        allChance(x, 5);
        dueBySize("12: right", counts(x, 0), 0, 0, 0, 0, 0, 1);
        dueBySize("12: down", counts(x, 1), 0, 5, 10, 10, 5, 1);
        dueBySize("15: the middle of three", sized(x, 2, 3), 0, 0, 0, 3, 2, 0);
        dueBySize("16: heaps", heapSums(x), 0, 5, 16, 18, 8, 1);
        due.is("18: down, alone", x.pivot(1, 4), 1);
        due.is("19: down", x.first(1, 2), 3);
    }

    private static void twelve() {
        OpenGrounds x = new OpenGrounds();
        x.ground(3, 3, false);
        allChance(x, 12);
        due.is("12: all open", x.count(2, 12), 1);
        for (int k = 0; k <= 12; k++) {
            due.is("14: with itself, size " + k, x.joined(8, 8, k), CHOOSE_12[k]);
            due.is("12: right and down are alike, size " + k, x.count(0, k), x.count(1, k));
            due.is("12: both and one at least, size " + k, x.count(2, k) + x.count(3, k), x.count(0, k) + x.count(1, k));
        }
        due.is("12: three roads of a row", x.count(0, 2), 3);
        due.is("16: none open", x.heapSum(0), 9);
        due.is("16: one open", x.heapSum(1), 12 * 8);
        due.is("16: two open", x.heapSum(2), 66 * 7);
        due.is("16: all but one open", x.heapSum(11), 12);
        // the trees that reach all places of a ground of 3 and 3: 192 of them
        due.is("15: trees", x.sized(4, 9, 8), 192);
        due.is("15: too few", x.sized(4, 9, 7), 0);
        due.is("17: at 0 of 9", x.chance(3, 0, 9), 0);
        due.is("17: at 9 of 9", x.chance(2, 9, 9), 282429536481L);
        due.is("19: the last", x.first(0, 12), 4095);
        due.is("18: the last CHANCE one", x.pivot(0, 12), BAD);
        due.is("18: the last but one", x.pivot(1, 11), x.pivot(1, 6));
    }

    /** No way from side to side just where there is a wall: the counts make up all settings. */
    private static void wallsAreWhereNoWayIs() {
        OpenGrounds x = new OpenGrounds();
        for (int rows = 1; rows <= 5; rows++) {
            for (int columns = 1; columns <= 5; columns++) {
                int things = x.ground(rows, columns, false);
                for (int thing = 0; thing < things; thing++) {
                    x.kind(thing, thing % 4 == 0 ? 2 : thing % 3 == 0 ? 0 : 1);
                }
                for (int way = 0; way < 2; way++) {
                    int sum = 0;
                    for (int k = 0; k <= x.told(4); k++) {
                        sum += x.walls(way, k) + x.count(way, k);
                    }
                    due.is("13: " + rows + " " + columns + " way " + way, sum, 1 << x.told(4));
                }
            }
        }
    }

    private static void chances() {
        OpenGrounds x = new OpenGrounds();
        allChance(x, 4);
        due.is("17: half", x.chance(0, 1, 2), 12);
        due.is("17: 2 of 3, right", x.chance(0, 2, 3), 2 * 2 + 5 * 4 + 4 * 8 + 16);
        due.is("17: 2 of 3, both", x.chance(2, 2, 3), 4 * 4 + 4 * 8 + 16);
        due.is("17: 2 of 3, one at least", x.chance(3, 2, 3), 80);
        due.is("17: 0 of 1", x.chance(0, 0, 1), 0);
        due.is("17: 1 of 1", x.chance(1, 1, 1), 1);
        due.is("17: 9 of 9", x.chance(1, 9, 9), 6561);
        x.ground(5, 5, true);
        allChance(x, 12);
        due.is("17: beyond an int", x.chance(1, 9, 9), 282429536481L);
        due.is("17: sure from below", x.chance(0, 1, 9), 282429536481L);
    }

    private static void refused() {
        OpenGrounds x = new OpenGrounds();
        x.kind(0, 2);
        x.kind(3, 2);
        int[] wrong = {-1, 4, 26, Integer.MIN_VALUE, Integer.MAX_VALUE};
        for (int number : wrong) {
            due.is("12: way " + number, x.count(number, 0), BAD);
            due.is("12: size " + number, x.count(0, number), BAD);
            due.is("13: way " + number, x.walls(number, 0), BAD);
            due.is("13: size " + number, x.walls(0, number), BAD);
            due.is("14: a " + number, x.joined(number, 0, 0), BAD);
            due.is("14: b " + number, x.joined(0, number, 0), BAD);
            due.is("14: size " + number, x.joined(0, 0, number), BAD);
            due.is("15: place " + number, x.sized(number, 0, 0), BAD);
            due.is("15: size " + number, x.sized(0, 0, number), BAD);
            due.is("16: size " + number, x.heapSum(number), BAD);
            due.is("17: way " + number, x.chance(number, 1, 2), BAD);
            due.is("18: way " + number, x.pivot(number, 0), BAD);
            due.is("18: i " + number, x.pivot(0, number), BAD);
            due.is("19: way " + number, x.first(number, 0), BAD);
            due.is("19: size " + number, x.first(0, number), BAD);
        }
        due.is("12: size m + 1", x.count(0, 3), BAD);
        due.is("13: way 2", x.walls(2, 0), BAD);
        due.is("15: n -1", x.sized(0, -1, 0), BAD);
        due.is("15: n 26", x.sized(0, 26, 0), BAD);
        due.is("15: n 25", x.sized(0, 25, 0), 0);
        due.is("17: q 0", x.chance(0, 0, 0), BAD);
        due.is("17: q 10", x.chance(0, 1, 10), BAD);
        due.is("17: p -1", x.chance(0, -1, 5), BAD);
        due.is("17: p above q", x.chance(0, 6, 5), BAD);
        due.is("18: i 2 of 2", x.pivot(0, 2), BAD);
        due.is("18: i 1 of 2", x.pivot(0, 1) >= 0 ? 1 : 0, 1);
        x.ground(2, 2, true);
        due.is("13: OF PLACES", x.walls(0, 0), STATE);
        due.is("13: OF PLACES is ahead", x.walls(7, -3), STATE);
        due.is("12: status is of sheets alone", x.status(), 0);
    }

    private static void noChanceOne() {
        OpenGrounds x = new OpenGrounds();
        x.ground(3, 3, true);
        due.is("12: the one setting", x.count(2, 0), 1);
        due.is("16: one heap", x.heapSum(0), 1);
        due.is("17: 1 of 1", x.chance(0, 0, 5), 1);
        due.is("19: the one setting", x.first(2, 0), 0);
        x.kind(4, 0);
        due.is("15: a ring", x.sized(0, 8, 0), 1);
        due.is("14: over the ring", x.joined(0, 8, 0), 1);
        due.is("18: none", x.pivot(0, 0), BAD);
        due.is("12: size 1", x.count(0, 1), BAD);
    }
}
