/** The boundary cases of counts: promises 12 to 19, each test with the sentence of the document that it holds. */
public final class CountEdgeTest {
    private static final Due due = new Due("CountEdgeTest");
    private static final int BAD = -1, STATE = -2, NONE = -9;
    private static final int LEAST = Integer.MIN_VALUE, GREATEST = Integer.MAX_VALUE;
    private static final int[] CHOOSE_12 = {1, 12, 66, 220, 495, 792, 924, 792, 495, 220, 66, 12, 1};

    private static final Edge roads = new Edge(due, Scenes::roads);
    private static final Edge places = new Edge(due, Scenes::places);
    private static final Edge full = new Edge(due, Scenes::full);
    private static final Edge onePlace = new Edge(due, x -> x.ground(1, 1, false));

    public static void main(String[] args) {
        countWays();
        countSizes();
        countOfNoChance();
        countOfTwelve();
        countOneRowAndColumn();
        countNoneOpen();
        wallsWays();
        wallsSizes();
        wallsOfPlaces();
        wallsOfOneRowAndColumn();
        wallsOfTwelve();
        joinedPlaces();
        joinedSizes();
        joinedWithItself();
        joinedFarthest();
        sizedPlaces();
        sizedNumbers();
        sizedNotOpen();
        sizedOf25();
        sizedMoreThanThereAre();
        sizedSizes();
        heapSumSizes();
        heapSumLeastAndMost();
        chanceWays();
        chanceBelow();
        chanceAbove();
        chanceOfNoChance();
        chanceNever();
        chanceOneWay();
        chanceGreatest();
        pivotWays();
        pivotChances();
        pivotOfNoChance();
        pivotOfTwelve();
        pivotHasItsWay();
        firstWays();
        firstSizes();
        firstNone();
        firstLeastAndGreatest();
        sizesOfEachNumber();
        due.end();
    }

    private static OpenGrounds fresh(int rows, int columns, boolean ofPlaces) {
        OpenGrounds x = new OpenGrounds();
        x.ground(rows, columns, ofPlaces);
        return x;
    }

    private static OpenGrounds series() {
        OpenGrounds x = new OpenGrounds();
        Scenes.series(x);
        return x;
    }

    /** 3 and 3, OF ROADS, all twelve of them CHANCE ones. */
    private static OpenGrounds twelve() {
        OpenGrounds x = fresh(3, 3, false);
        Scenes.chances(x, 12);
        return x;
    }

    /** All THINGS of one KIND, but the first m, which are CHANCE ones. */
    private static OpenGrounds mixed(int rows, int columns, boolean ofPlaces, int kind, int m) {
        OpenGrounds x = fresh(rows, columns, ofPlaces);
        Scenes.all(x, kind);
        Scenes.chances(x, m);
        return x;
    }

    // ---- promise 12

    /** Promise 12: "COUNT of THROUGH 0, 1, ACROSS 0, 1 (way 2, 3) for SIZE k.": the ways 0 .. 3. BAD. */
    private static void countWays() {
        OpenGrounds x = fresh(2, 2, false);
        Scenes.chances(x, 4);
        int[] ofSizeTwo = {5, 5, 4, 6};
        for (int way = 0; way <= 3; way++) {
            due.is("12: count(" + way + ", 2)", x.count(way, 2), ofSizeTwo[way]);
        }
        for (int way : Edge.outside(0, 3)) {
            roads.refused("12: count(" + way + ", 0)", y -> y.count(way, 0), BAD);
            places.refused("12: count(" + way + ", 2)", y -> y.count(way, 2), BAD);
        }
        roads.refused("12: no way, no SIZE", y -> y.count(4, 4), BAD);
    }

    /** Promise 12: "BAD: k 0 .. m.": for each way. */
    private static void countSizes() {
        for (int way = 0; way <= 3; way++) {
            int now = way;
            due.is("12: SIZE m, way " + way, twelve().count(way, 12), 1);
            due.is("12: SIZE 0, way " + way, twelve().count(way, 0), 0);
            for (int k : Edge.outside(0, 3)) {
                roads.refused("12: count(" + way + ", " + k + ")", x -> x.count(now, k), BAD);
            }
            for (int k : Edge.outside(0, 2)) {
                places.refused("12: count(" + way + ", " + k + ")", x -> x.count(now, k), BAD);
            }
            for (int k : Edge.outside(0, 12)) {
                full.refused("12: count(" + way + ", " + k + ")", x -> x.count(now, k), BAD);
            }
        }
    }

    /** Promise 12: "BAD: k 0 .. m.": of no CHANCE one there is SIZE 0 alone, with one SETTING. */
    private static void countOfNoChance() {
        for (int way = 0; way <= 3; way++) {
            int now = way;
            due.is("12: one PLACE, way " + way, fresh(1, 1, false).count(way, 0), 1);
            due.is("12: one SHUT PLACE, way " + way, mixed(1, 1, true, 0, 0).count(way, 0), 0);
            due.is("12: all SURE, way " + way, fresh(5, 5, true).count(way, 0), 1);
            for (int k : Edge.outside(0, 0)) {
                onePlace.refused("12: count(" + way + ", " + k + ")", x -> x.count(now, k), BAD);
            }
        }
    }

    /**
     * Promise 12, "COUNTS are by SIZE k: in how many SETTINGS of that SIZE something holds.": all of twelve, by
     * SIZE.
     */
    private static void countOfTwelve() {
        OpenGrounds always = mixed(5, 5, false, 1, 12);
        OpenGrounds once = series();
        for (int k = 0; k <= 12; k++) {
            due.is("12: always, SIZE " + k, always.count(1, k), CHOOSE_12[k]);
            due.is("12: by all twelve, SIZE " + k, once.count(0, k), k == 12 ? 1 : 0);
        }
        OpenGrounds ring = twelve();
        due.is("12: no way by one", ring.count(3, 1), 0);
        due.is("12: three rows by two", ring.count(0, 2), 3);
        due.is("12: all but one", ring.count(2, 11), 12);
    }

    /**
     * Promise 12, Terms: "(or are one OPEN PLACE)", "ACROSS 0, 1: both kinds of THROUGH; one at least.": one row,
     * one column.
     */
    private static void countOneRowAndColumn() {
        OpenGrounds row = mixed(1, 5, true, 1, 5);
        OpenGrounds column = mixed(5, 1, true, 1, 5);
        int[] one = {0, 5, 10, 10, 5, 1};
        int[] all = {0, 0, 0, 0, 0, 1};
        for (int k = 0; k <= 5; k++) {
            due.is("12: row, THROUGH 0, " + k, row.count(0, k), all[k]);
            due.is("12: row, THROUGH 1, " + k, row.count(1, k), one[k]);
            due.is("12: row, both, " + k, row.count(2, k), all[k]);
            due.is("12: row, one at least, " + k, row.count(3, k), one[k]);
            due.is("12: column, THROUGH 0, " + k, column.count(0, k), one[k]);
            due.is("12: column, THROUGH 1, " + k, column.count(1, k), all[k]);
            due.is("12: column, both, " + k, column.count(2, k), all[k]);
            due.is("12: column, one at least, " + k, column.count(3, k), one[k]);
        }
    }

    /**
     * Promise 12, Terms: "THROUGH 0: a PLACE of the first column and one of the last hang together": nothing is
     * OPEN.
     */
    private static void countNoneOpen() {
        for (int way = 0; way <= 3; way++) {
            due.is("12: no PLACE, way " + way, mixed(5, 5, true, 0, 0).count(way, 0), 0);
            due.is("12: no ROAD, way " + way, mixed(5, 5, false, 0, 0).count(way, 0), 0);
        }
        due.is("12: no ROAD, one row, down", mixed(1, 5, false, 0, 0).count(1, 0), 1);
    }

    // ---- promise 13

    /** Promise 13: "COUNT of WALL 0, 1. BAD": no other way, though count() knows 2 and 3. */
    private static void wallsWays() {
        due.is("13: way 0", twelve().walls(0, 0), 1);
        due.is("13: way 1", twelve().walls(1, 0), 1);
        for (int way : Edge.outside(0, 1)) {
            roads.refused("13: walls(" + way + ", 0)", x -> x.walls(way, 0), BAD);
        }
        roads.refused("13: walls(3, 0)", x -> x.walls(3, 0), BAD);
        roads.refused("13: no way, no SIZE", x -> x.walls(2, 4), BAD);
    }

    /** Promise 13: "BAD": the SIZE k, 0 .. m. */
    private static void wallsSizes() {
        for (int way = 0; way <= 1; way++) {
            int now = way;
            for (int k : Edge.outside(0, 3)) {
                roads.refused("13: walls(" + way + ", " + k + ")", x -> x.walls(now, k), BAD);
            }
            for (int k : Edge.outside(0, 12)) {
                full.refused("13: walls(" + way + ", " + k + ")", x -> x.walls(now, k), BAD);
            }
            for (int k : Edge.outside(0, 0)) {
                onePlace.refused("13: walls(" + way + ", " + k + ")", x -> x.walls(now, k), BAD);
            }
            due.is("13: one PLACE, SIZE 0", fresh(1, 1, false).walls(way, 0), 0);
        }
    }

    /** Promise 13: "STATE (ahead: OF PLACES).": ahead of BAD, whatever the way and the SIZE. */
    private static void wallsOfPlaces() {
        for (int way : new int[] {0, 1, -1, 2, LEAST, GREATEST}) {
            for (int k : new int[] {0, 2, -1, 3, LEAST, GREATEST}) {
                places.refused("13: OF PLACES, walls(" + way + ", " + k + ")", x -> x.walls(way, k), STATE);
            }
        }
        due.is("13: one PLACE", fresh(1, 1, true).walls(0, 0), STATE);
    }

    /** Promise 13, Terms: "c 0 .. COLUMNS - 2": one row has WALLS 0 alone, one column WALLS 1 alone. */
    private static void wallsOfOneRowAndColumn() {
        OpenGrounds row = mixed(1, 5, false, 1, 4);
        OpenGrounds column = mixed(5, 1, false, 1, 4);
        int[] all = {1, 4, 6, 4, 0};
        for (int k = 0; k <= 4; k++) {
            due.is("13: row, WALL 0, " + k, row.walls(0, k), all[k]);
            due.is("13: row, WALL 1, " + k, row.walls(1, k), 0);
            due.is("13: column, WALL 0, " + k, column.walls(0, k), 0);
            due.is("13: column, WALL 1, " + k, column.walls(1, k), all[k]);
        }
    }

    /** Promise 13: "COUNT of WALL 0, 1.": of twelve CHANCE ones, where all but one are as good as none. */
    private static void wallsOfTwelve() {
        OpenGrounds x = series();
        for (int k = 0; k <= 12; k++) {
            due.is("13: one way, SIZE " + k, x.walls(0, k), k == 12 ? 0 : CHOOSE_12[k]);
        }
        OpenGrounds ring = twelve();
        due.is("13: three columns, two walls of three", ring.walls(0, 9), 2);
        due.is("13: none of two", ring.walls(0, 10), 0);
        due.is("13: three rows, two walls of three", ring.walls(1, 9), 2);
    }

    // ---- promise 14

    /** Promise 14: "COUNT of: two PLACES are in one HEAP. BAD.": the PLACES beside the first and the last one. */
    private static void joinedPlaces() {
        due.is("14: the first and the last", fresh(5, 5, false).joined(0, 24, 0), 1);
        due.is("14: the last and the first", fresh(5, 5, true).joined(24, 0, 0), 1);
        for (int place : Edge.outside(0, 8)) {
            roads.refused("14: joined(" + place + ", 0, 0)", x -> x.joined(place, 0, 0), BAD);
            roads.refused("14: joined(8, " + place + ", 3)", x -> x.joined(8, place, 3), BAD);
            roads.refused("14: joined of " + place + " twice", x -> x.joined(place, place, 0), BAD);
        }
        for (int place : Edge.outside(0, 11)) {
            places.refused("14: joined(" + place + ", 0, 0)", x -> x.joined(place, 0, 0), BAD);
            places.refused("14: joined(11, " + place + ", 2)", x -> x.joined(11, place, 2), BAD);
        }
        onePlace.refused("14: no second PLACE", x -> x.joined(0, 1, 0), BAD);
        due.is("14: no 26th PLACE", fresh(5, 5, true).joined(25, 0, 0), BAD);
    }

    /** Promise 14: "BAD.": the SIZE k, 0 .. m. */
    private static void joinedSizes() {
        for (int k : Edge.outside(0, 3)) {
            roads.refused("14: joined(0, 8, " + k + ")", x -> x.joined(0, 8, k), BAD);
        }
        for (int k : Edge.outside(0, 12)) {
            full.refused("14: joined(0, 24, " + k + ")", x -> x.joined(0, 24, k), BAD);
        }
        for (int k : Edge.outside(0, 0)) {
            onePlace.refused("14: joined(0, 0, " + k + ")", x -> x.joined(0, 0, k), BAD);
        }
        due.is("14: SIZE 12", twelve().joined(0, 8, 12), 1);
        due.is("14: SIZE 0", twelve().joined(0, 8, 0), 0);
    }

    /** Promise 14, Terms: "a HEAP is all OPEN PLACES that hang together": a PLACE with itself, if it is OPEN. */
    private static void joinedWithItself() {
        due.is("14: one PLACE", fresh(1, 1, false).joined(0, 0, 0), 1);
        due.is("14: one SHUT PLACE", mixed(1, 1, true, 0, 0).joined(0, 0, 0), 0);
        OpenGrounds x = mixed(1, 1, true, 1, 1);
        due.is("14: a CHANCE one without its WAY", x.joined(0, 0, 0), 0);
        due.is("14: a CHANCE one with its WAY", x.joined(0, 0, 1), 1);
        OpenGrounds y = twelve();
        for (int k = 0; k <= 12; k++) {
            due.is("14: OF ROADS always, SIZE " + k, y.joined(8, 8, k), CHOOSE_12[k]);
        }
    }

    /** Promise 14, Terms: "a HEAP is all OPEN PLACES that hang together": two that are not OPEN are in none. */
    private static void joinedFarthest() {
        OpenGrounds x = mixed(5, 5, true, 0, 0);
        due.is("14: two SHUT ones", x.joined(0, 1, 0), 0);
        OpenGrounds y = series();
        for (int k = 0; k <= 12; k++) {
            due.is("14: over all twelve, SIZE " + k, y.joined(0, 4, k), k == 12 ? 1 : 0);
            due.is("14: alone, SIZE " + k, y.joined(0, 24, k), 0);
        }
    }

    // ---- promise 15

    /** Promise 15: "COUNT of: the HEAP of a PLACE has n PLACES (0 .. 25; 0: it is not OPEN). BAD.": the PLACE. */
    private static void sizedPlaces() {
        due.is("15: the last PLACE", fresh(5, 5, false).sized(24, 25, 0), 1);
        for (int place : Edge.outside(0, 8)) {
            roads.refused("15: sized(" + place + ", 1, 0)", x -> x.sized(place, 1, 0), BAD);
            roads.refused("15: sized(" + place + ", 0, 3)", x -> x.sized(place, 0, 3), BAD);
        }
        for (int place : Edge.outside(0, 11)) {
            places.refused("15: sized(" + place + ", 0, 0)", x -> x.sized(place, 0, 0), BAD);
        }
        onePlace.refused("15: no second PLACE", x -> x.sized(1, 1, 0), BAD);
        due.is("15: no 26th PLACE", fresh(5, 5, true).sized(25, 25, 0), BAD);
    }

    /** Promise 15: "has n PLACES (0 .. 25": -1 and 26 are refused in every ground, the least and the greatest. */
    private static void sizedNumbers() {
        for (int n : Edge.outside(0, 25)) {
            roads.refused("15: sized(0, " + n + ", 0)", x -> x.sized(0, n, 0), BAD);
            places.refused("15: sized(11, " + n + ", 2)", x -> x.sized(11, n, 2), BAD);
            onePlace.refused("15: sized(0, " + n + ", 0)", x -> x.sized(0, n, 0), BAD);
            full.refused("15: sized(24, " + n + ", 12)", x -> x.sized(24, n, 12), BAD);
        }
        roads.refused("15: nothing is as told", x -> x.sized(9, 26, 4), BAD);
    }

    /** Promise 15: "0: it is not OPEN": OF ROADS never. */
    private static void sizedNotOpen() {
        due.is("15: SHUT", mixed(5, 5, true, 0, 0).sized(24, 0, 0), 1);
        due.is("15: SURE", mixed(5, 5, true, 1, 0).sized(24, 0, 0), 0);
        due.is("15: OF ROADS, all SHUT", mixed(5, 5, false, 0, 0).sized(24, 0, 0), 0);
        OpenGrounds x = mixed(5, 5, true, 0, 12);
        int[] without = {1, 11, 55, 165, 330, 462, 462, 330, 165, 55, 11, 1, 0};
        for (int k = 0; k <= 12; k++) {
            due.is("15: always SHUT, SIZE " + k, x.sized(24, 0, k), CHOOSE_12[k]);
            due.is("15: a CHANCE one, SIZE " + k, x.sized(11, 0, k), without[k]);
        }
    }

    /** Promise 15: "has n PLACES (0 .. 25": all 25, and all but one. */
    private static void sizedOf25() {
        OpenGrounds x = mixed(5, 5, true, 1, 1);
        due.is("15: 25 of 25", x.sized(24, 25, 1), 1);
        due.is("15: no longer 24", x.sized(24, 24, 1), 0);
        due.is("15: 24 of 25", x.sized(24, 24, 0), 1);
        due.is("15: not yet 25", x.sized(24, 25, 0), 0);
    }

    /** Promise 15: "has n PLACES (0 .. 25": more than the GROUND has is no refusal, it is no SETTING. */
    private static void sizedMoreThanThereAre() {
        due.is("15: one of one", fresh(1, 1, false).sized(0, 1, 0), 1);
        due.is("15: two of one", fresh(1, 1, false).sized(0, 2, 0), 0);
        due.is("15: 25 of one", fresh(1, 1, true).sized(0, 25, 0), 0);
        due.is("15: 4 of 4", fresh(2, 2, false).sized(3, 4, 0), 1);
        due.is("15: 5 of 4", fresh(2, 2, false).sized(3, 5, 0), 0);
    }

    /** Promise 15: "BAD.": the SIZE k, 0 .. m. */
    private static void sizedSizes() {
        for (int k : Edge.outside(0, 3)) {
            roads.refused("15: sized(0, 1, " + k + ")", x -> x.sized(0, 1, k), BAD);
        }
        for (int k : Edge.outside(0, 12)) {
            full.refused("15: sized(0, 0, " + k + ")", x -> x.sized(0, 0, k), BAD);
        }
        for (int k : Edge.outside(0, 0)) {
            onePlace.refused("15: sized(0, 1, " + k + ")", x -> x.sized(0, 1, k), BAD);
        }
        due.is("15: SIZE 12", twelve().sized(4, 9, 12), 1);
        due.is("15: SIZE 0", twelve().sized(4, 1, 0), 1);
    }

    // ---- promise 16

    /** Promise 16: "The sum, over SETTINGS of SIZE k, of how many HEAPS there are. BAD.": k 0 .. m. */
    private static void heapSumSizes() {
        for (int k : Edge.outside(0, 3)) {
            roads.refused("16: heapSum(" + k + ")", x -> x.heapSum(k), BAD);
        }
        for (int k : Edge.outside(0, 2)) {
            places.refused("16: heapSum(" + k + ")", x -> x.heapSum(k), BAD);
        }
        for (int k : Edge.outside(0, 12)) {
            full.refused("16: heapSum(" + k + ")", x -> x.heapSum(k), BAD);
        }
        for (int k : Edge.outside(0, 0)) {
            onePlace.refused("16: heapSum(" + k + ")", x -> x.heapSum(k), BAD);
        }
    }

    /** Promise 16: "of how many HEAPS there are": none of none, one of one, and the greatest sums. */
    private static void heapSumLeastAndMost() {
        due.is("16: one PLACE", fresh(1, 1, false).heapSum(0), 1);
        due.is("16: no PLACE is OPEN", mixed(5, 5, true, 0, 0).heapSum(0), 0);
        due.is("16: 25 apart", mixed(5, 5, false, 0, 0).heapSum(0), 25);
        OpenGrounds x = mixed(5, 5, false, 0, 12);
        for (int k = 0; k <= 12; k++) {
            due.is("16: each one open ends a HEAP, SIZE " + k, x.heapSum(k), CHOOSE_12[k] * (25 - k));
        }
    }

    // ---- promise 17

    /** Promise 17: "THE CHANCE of THROUGH, ACROSS (as count())", "-1: BAD.": the ways 0 .. 3. */
    private static void chanceWays() {
        OpenGrounds x = fresh(2, 2, false);
        Scenes.chances(x, 4);
        long[] ofThree = {72, 72, 64, 80};
        for (int way = 0; way <= 3; way++) {
            due.is("17: chance(" + way + ", 2, 3)", x.chance(way, 2, 3), ofThree[way]);
        }
        for (int way : Edge.outside(0, 3)) {
            roads.refused("17: chance(" + way + ", 1, 2)", y -> y.chance(way, 1, 2), -1);
            places.refused("17: chance(" + way + ", 0, 1)", y -> y.chance(way, 0, 1), -1);
        }
    }

    /** Promise 17: "with p of q (q 1 .. 9, p 0 .. q). -1: BAD.": the q. */
    private static void chanceBelow() {
        OpenGrounds x = fresh(1, 5, false);
        Scenes.chances(x, 4);
        due.is("17: q 1", x.chance(0, 1, 1), 1);
        due.is("17: q 9", x.chance(0, 2, 9), 16);
        for (int q : Edge.outside(1, 9)) {
            roads.refused("17: chance(0, 0, " + q + ")", y -> y.chance(0, 0, q), -1);
            roads.refused("17: chance(0, 1, " + q + ")", y -> y.chance(0, 1, q), -1);
            roads.refused("17: p is q, " + q, y -> y.chance(0, q, q), -1);
        }
        roads.refused("17: q -1", y -> y.chance(0, 0, -1), -1);
    }

    /** Promise 17: "with p of q (q 1 .. 9, p 0 .. q). -1: BAD.": the p, for each q. */
    private static void chanceAbove() {
        for (int q = 1; q <= 9; q++) {
            int below = q;
            OpenGrounds x = fresh(1, 5, false);
            Scenes.chances(x, 4);
            due.is("17: p 0 of " + q, x.chance(0, 0, q), 0);
            due.is("17: p q of " + q, x.chance(0, q, q), (long) q * q * q * q);
            due.is("17: down is sure, 0 of " + q, x.chance(1, 0, q), (long) q * q * q * q);
            due.is("17: down is sure, q of " + q, x.chance(1, q, q), (long) q * q * q * q);
            for (int p : Edge.outside(0, q)) {
                roads.refused("17: chance(0, " + p + ", " + q + ")", y -> y.chance(0, p, below), -1);
            }
        }
        roads.refused("17: nothing is as told", y -> y.chance(4, 11, 10), -1);
    }

    /** Promise 17, "has q^m below": with no CHANCE one that is 1, and above stands 1 or 0, whatever p and q. */
    private static void chanceOfNoChance() {
        OpenGrounds open = fresh(1, 1, false);
        OpenGrounds shut = mixed(1, 1, true, 0, 0);
        for (int way = 0; way <= 3; way++) {
            for (int q : new int[] {1, 9}) {
                due.is("17: open, 0 of " + q, open.chance(way, 0, q), 1);
                due.is("17: open, q of " + q, open.chance(way, q, q), 1);
                due.is("17: shut, 0 of " + q, shut.chance(way, 0, q), 0);
                due.is("17: shut, q of " + q, shut.chance(way, q, q), 0);
            }
        }
    }

    /** Promise 17, "above the sum over k of the COUNT of k times p^k (q - p)^(m - k)": no COUNT, no chance. */
    private static void chanceNever() {
        OpenGrounds x = mixed(5, 5, false, 0, 12);
        for (int p = 0; p <= 9; p++) {
            due.is("17: never down, " + p + " of 9", x.chance(1, p, 9), 0);
        }
    }

    /**
     * Promise 17, "p^k (q - p)^(m - k)": of twelve in a row all must have their WAY; p 0 and p q are no chance and
     * all.
     */
    private static void chanceOneWay() {
        OpenGrounds x = series();
        for (int p = 0; p <= 9; p++) {
            long power = 1;
            for (int i = 0; i < 12; i++) {
                power *= p;
            }
            due.is("17: p^12, " + p + " of 9", x.chance(0, p, 9), power);
        }
    }

    /** Promise 17: "long chance(int way, int p, int q)": as great as it may be, 9^12, which is beyond an int. */
    private static void chanceGreatest() {
        OpenGrounds x = mixed(5, 5, true, 1, 12);
        for (int p = 0; p <= 9; p++) {
            due.is("17: always down, " + p + " of 9", mixed(5, 5, false, 1, 12).chance(1, p, 9), 282429536481L);
        }
        due.is("17: nothing but by the last rows", x.chance(0, 0, 9), 282429536481L);
        due.is("17: all of 9", x.chance(1, 9, 9), 282429536481L);
        due.is("17: none of 9", x.chance(1, 0, 9), 0);
    }

    // ---- promise 18

    /** Promise 18: "How many of the SETTINGS that are THROUGH (as count())": the ways 0 .. 3. "BAD." */
    private static void pivotWays() {
        OpenGrounds x = fresh(2, 2, false);
        Scenes.chances(x, 4);
        int[] ofTheLeft = {0, 4, 3, 1};
        for (int way = 0; way <= 3; way++) {
            due.is("18: pivot(" + way + ", 2)", x.pivot(way, 2), ofTheLeft[way]);
        }
        for (int way : Edge.outside(0, 3)) {
            roads.refused("18: pivot(" + way + ", 0)", y -> y.pivot(way, 0), BAD);
            places.refused("18: pivot(" + way + ", 1)", y -> y.pivot(way, 1), BAD);
        }
        roads.refused("18: no way, no CHANCE one", y -> y.pivot(4, 3), BAD);
    }

    /** Promise 18: "CHANCE one i of them", "BAD.": of m CHANCE ones 0 .. m - 1. */
    private static void pivotChances() {
        for (int way = 0; way <= 3; way++) {
            int now = way;
            for (int i : Edge.outside(0, 2)) {
                roads.refused("18: pivot(" + way + ", " + i + ")", x -> x.pivot(now, i), BAD);
            }
            for (int i : Edge.outside(0, 1)) {
                places.refused("18: pivot(" + way + ", " + i + ")", x -> x.pivot(now, i), BAD);
            }
            for (int i : Edge.outside(0, 11)) {
                full.refused("18: pivot(" + way + ", " + i + ")", x -> x.pivot(now, i), BAD);
            }
        }
        roads.refused("18: a number beyond the bits of an int", x -> x.pivot(0, 32), BAD);
    }

    /** Promise 18: "BAD.": with no CHANCE one there is no number at all. */
    private static void pivotOfNoChance() {
        for (int way = 0; way <= 3; way++) {
            int now = way;
            for (int i : new int[] {0, 1, -1, LEAST, GREATEST}) {
                onePlace.refused("18: pivot(" + way + ", " + i + ")", x -> x.pivot(now, i), BAD);
            }
        }
        due.is("18: one", mixed(1, 1, true, 1, 1).pivot(0, 0), 1);
    }

    /**
     * Promise 18: "are not any more, if CHANCE one i of them alone loses its WAY": of twelve, the first and the
     * last too.
     */
    private static void pivotOfTwelve() {
        OpenGrounds once = series();
        OpenGrounds always = mixed(5, 5, false, 1, 12);
        OpenGrounds never = mixed(5, 5, false, 0, 12);
        for (int i = 0; i < 12; i++) {
            due.is("18: one way, CHANCE one " + i, once.pivot(0, i), 1);
            due.is("18: always, CHANCE one " + i, always.pivot(1, i), 0);
            due.is("18: never, CHANCE one " + i, never.pivot(1, i), 0);
        }
    }

    /** Promise 18: "(those in which it has it)": where only what is AGAINST it opens the way, none is lost. */
    private static void pivotHasItsWay() {
        OpenGrounds x = fresh(1, 3, false);
        x.kind(1, 2);
        x.twin(0, 1, true);
        due.is("18: never THROUGH", x.pivot(0, 0), 0);
        OpenGrounds y = fresh(2, 2, false);
        y.kind(2, 2);
        y.twin(0, 2, true);
        y.twin(1, 2, true);
        y.kind(3, 0);
        due.is("18: THROUGH without its WAY alone", y.pivot(0, 0), 0);
        due.is("18: THROUGH with its WAY alone", y.pivot(1, 0), 1);
        due.is("18: both never", y.pivot(2, 0), 0);
        due.is("18: one of both always", y.pivot(3, 0), 0);
    }

    // ---- promise 19

    /** Promise 19: "The least SETTING of SIZE k that is THROUGH (as count())": the ways 0 .. 3. "BAD." */
    private static void firstWays() {
        OpenGrounds x = fresh(2, 2, false);
        Scenes.chances(x, 4);
        int[] ofSizeTwo = {3, 5, 5, 3};
        for (int way = 0; way <= 3; way++) {
            due.is("19: first(" + way + ", 2)", x.first(way, 2), ofSizeTwo[way]);
        }
        for (int way : Edge.outside(0, 3)) {
            roads.refused("19: first(" + way + ", 0)", y -> y.first(way, 0), BAD);
            places.refused("19: first(" + way + ", 2)", y -> y.first(way, 2), BAD);
        }
        roads.refused("19: no way, no SIZE", y -> y.first(4, 4), BAD);
    }

    /** Promise 19: "BAD.": the SIZE k, 0 .. m. */
    private static void firstSizes() {
        for (int way = 0; way <= 3; way++) {
            int now = way;
            for (int k : Edge.outside(0, 3)) {
                roads.refused("19: first(" + way + ", " + k + ")", x -> x.first(now, k), BAD);
            }
            for (int k : Edge.outside(0, 12)) {
                full.refused("19: first(" + way + ", " + k + ")", x -> x.first(now, k), BAD);
            }
            for (int k : Edge.outside(0, 0)) {
                onePlace.refused("19: first(" + way + ", " + k + ")", x -> x.first(now, k), BAD);
            }
            due.is("19: one PLACE, way " + way, fresh(1, 1, false).first(way, 0), 0);
        }
    }

    /** Promise 19: "NONE.": no SETTING of that SIZE is THROUGH, where none is, or only one of another SIZE. */
    private static void firstNone() {
        OpenGrounds never = mixed(5, 5, false, 0, 12);
        OpenGrounds once = series();
        for (int k = 0; k <= 12; k++) {
            due.is("19: never, SIZE " + k, never.first(1, k), NONE);
            due.is("19: by all twelve, SIZE " + k, once.first(0, k), k == 12 ? 4095 : NONE);
        }
        for (int way = 0; way <= 3; way++) {
            due.is("19: one SHUT PLACE, way " + way, mixed(1, 1, true, 0, 0).first(way, 0), NONE);
        }
        OpenGrounds against = fresh(1, 3, false);
        against.kind(0, 2);
        against.twin(1, 0, true);
        due.is("19: never both", against.first(0, 0), NONE);
        OpenGrounds without = fresh(2, 2, false);
        without.kind(2, 2);
        without.twin(0, 2, true);
        without.kind(1, 0);
        due.is("19: THROUGH without its WAY", without.first(0, 0), 0);
        due.is("19: but not with it, and 2^m is no SETTING", without.first(0, 1), NONE);
    }

    /**
     * Promise 19: "The least SETTING of SIZE k": where all are THROUGH it is 2^k - 1; the last CHANCE one alone,
     * 2^11.
     */
    private static void firstLeastAndGreatest() {
        OpenGrounds always = mixed(5, 5, false, 1, 12);
        for (int k = 0; k <= 12; k++) {
            due.is("19: always, SIZE " + k, always.first(1, k), (1 << k) - 1);
        }
        OpenGrounds last = mixed(5, 5, true, 0, 11);
        last.kind(15, 1);
        last.kind(16, 1);
        last.kind(17, 1);
        last.kind(18, 1);
        last.kind(19, 2);
        due.is("19: by the last alone", last.first(0, 1), 2048);
        due.is("19: by the first and the last", last.first(0, 2), 2049);
    }

    // ---- sizes

    /** Promises 12 to 16 and 19, Terms: "its SIZE is how many of them have": m and m + 1 for each m, 0 and -1. */
    private static void sizesOfEachNumber() {
        for (int m = 0; m <= 12; m++) {
            OpenGrounds x = mixed(5, 5, false, 1, m);
            int last = (1 << m) - 1;
            due.is("12: SIZE m " + m, x.count(1, m), 1);
            due.is("13: SIZE m " + m, x.walls(1, m), 0);
            due.is("14: SIZE m " + m, x.joined(0, 24, m), 1);
            due.is("15: SIZE m " + m, x.sized(0, 25, m), 1);
            due.is("16: SIZE m " + m, x.heapSum(m), 1);
            due.is("19: SIZE m " + m, x.first(1, m), last);
            for (int k : new int[] {-1, m + 1}) {
                due.is("12: SIZE " + k + " of " + m, x.count(1, k), BAD);
                due.is("13: SIZE " + k + " of " + m, x.walls(1, k), BAD);
                due.is("14: SIZE " + k + " of " + m, x.joined(0, 24, k), BAD);
                due.is("15: SIZE " + k + " of " + m, x.sized(0, 25, k), BAD);
                due.is("16: SIZE " + k + " of " + m, x.heapSum(k), BAD);
                due.is("19: SIZE " + k + " of " + m, x.first(1, k), BAD);
            }
            due.is("18: CHANCE one m - 1 of " + m, x.pivot(1, m - 1), m == 0 ? BAD : 0);
            due.is("18: CHANCE one m of " + m, x.pivot(1, m), BAD);
        }
    }
}
