/**
 * The boundary cases of one setting: promises 7 to 11 and 25, each test with the sentence of the document that it
 * holds.
 */
public final class SettingEdgeTest {
    private static final Due due = new Due("SettingEdgeTest");
    private static final int BAD = -1, STATE = -2, NONE = -9;
    private static final int LEAST = Integer.MIN_VALUE, GREATEST = Integer.MAX_VALUE;

    private static final Edge roads = new Edge(due, Scenes::roads);
    private static final Edge places = new Edge(due, Scenes::places);
    private static final Edge full = new Edge(due, Scenes::full);

    public static void main(String[] args) {
        settingsOfEachNumber();
        settingsOfTwelve();
        settingBits();
        opensNoThing();
        opensNoSetting();
        opensEachKind();
        traceAtFirst();
        traceOfEachKind();
        traceOfOpensAlone();
        traceOf512Calls();
        throughWays();
        throughNoSetting();
        throughOnePlace();
        throughOneRow();
        throughOneColumn();
        throughFromCornerToCorner();
        throughNotOverTheEdge();
        wallWays();
        wallNoSetting();
        wallOfPlaces();
        wallBadFirst();
        wallOfOnePlace();
        wallOfOneRow();
        wallOfOneColumn();
        wallOfTwoColumns();
        wallNotOverOuterColumns();
        wallGoesUpToo();
        wallExchanged();
        heapNoPlace();
        heapNoSetting();
        heapLeastPlace();
        heapNotOpen();
        heapsWhat();
        heapsNoSetting();
        heapsOfNone();
        heapsMost();
        due.end();
    }

    private static OpenGrounds fresh(int rows, int columns, boolean ofPlaces) {
        OpenGrounds x = new OpenGrounds();
        x.ground(rows, columns, ofPlaces);
        return x;
    }

    /** All THINGS SHUT but these, which are SURE. */
    private static OpenGrounds openOnly(int rows, int columns, boolean ofPlaces, int... open) {
        OpenGrounds x = fresh(rows, columns, ofPlaces);
        Scenes.all(x, 0);
        for (int thing : open) {
            x.kind(thing, 1);
        }
        return x;
    }

    /** All THINGS SURE but these, which are SHUT. */
    private static OpenGrounds shutOnly(int rows, int columns, int... shut) {
        OpenGrounds x = fresh(rows, columns, false);
        for (int thing : shut) {
            x.kind(thing, 0);
        }
        return x;
    }

    private static int throughBoth(OpenGrounds x, int setting) {
        return x.through(setting, 0) * 10 + x.through(setting, 1);
    }

    // ---- settings

    /**
     * Promises 7 to 11, Terms: "of m CHANCE ones 0 .. 2^m - 1": the last SETTING and the first that is none, for
     * each m.
     */
    private static void settingsOfEachNumber() {
        for (int m = 0; m <= 12; m++) {
            OpenGrounds x = fresh(5, 5, false);
            for (int i = 0; i < m; i++) {
                x.kind(3 * i, 2);
            }
            int last = (1 << m) - 1;
            due.is("7: SETTING 0 of " + m, x.opens(0, 0), m == 0 ? 1 : 0);
            due.is("7: the last of " + m, x.opens(0, last), 1);
            due.is("8: the last of " + m, x.through(last, 0), 1);
            due.is("9: the last of " + m, x.wall(last, 0), 0);
            due.is("10: the last of " + m, x.heap(last, 24), 0);
            due.is("11: the last of " + m, x.heaps(last, 0), 1);
            for (int none : Edge.outside(0, last)) {
                due.is("7: " + none + " of " + m, x.opens(0, none), BAD);
                due.is("8: " + none + " of " + m, x.through(none, 0), BAD);
                due.is("9: " + none + " of " + m, x.wall(none, 0), BAD);
                due.is("10: " + none + " of " + m, x.heap(none, 0), BAD);
                due.is("11: " + none + " of " + m, x.heaps(none, 0), BAD);
            }
        }
    }

    /** Promises 7 to 11, Terms: "At most 12 are CHANCE ones": 4095 is a SETTING of twelve, 4096 is refused. */
    private static void settingsOfTwelve() {
        due.is("7: 4095", twelve().opens(11, 4095), 1);
        due.is("10: 4095", twelve().heap(4095, 0), 0);
        for (int none : new int[] {4096, -1, -4096, 8191, LEAST, GREATEST}) {
            full.refused("7: opens(0, " + none + ")", x -> x.opens(0, none), BAD);
            full.refused("8: through(" + none + ", 0)", x -> x.through(none, 0), BAD);
            full.refused("9: wall(" + none + ", 0)", x -> x.wall(none, 0), BAD);
            full.refused("10: heap(" + none + ", 0)", x -> x.heap(none, 0), BAD);
            full.refused("11: heaps(" + none + ", 0)", x -> x.heaps(none, 0), BAD);
        }
    }

    private static OpenGrounds twelve() {
        OpenGrounds x = new OpenGrounds();
        Scenes.full(x);
        return x;
    }

    /**
     * Promise 7, Terms: "its bit i tells whether CHANCE one i has its WAY": each bit alone, from the first to the
     * twelfth.
     */
    private static void settingBits() {
        OpenGrounds x = twelve();
        for (int i = 0; i < 12; i++) {
            for (int j = 0; j < 12; j++) {
                due.is("7: CHANCE one " + j + " by bit " + i, x.opens(j, 1 << i), i == j ? 1 : 0);
            }
            due.is("7: the TWIN of the first by bit " + i, x.opens(12, 1 << i), i == 0 ? 1 : 0);
            due.is("7: the one AGAINST the twelfth by bit " + i, x.opens(13, 1 << i), i == 11 ? 0 : 1);
        }
    }

    // ---- promise 7

    /** Promise 7: "Whether a THING OPENS by a SETTING: 1, 0. BAD.": the THINGS beside the first and the last one. */
    private static void opensNoThing() {
        due.is("7: the first THING", fresh(5, 5, false).opens(0, 0), 1);
        due.is("7: the last ROAD", fresh(5, 5, false).opens(39, 0), 1);
        due.is("7: the last PLACE", fresh(5, 5, true).opens(24, 0), 1);
        for (int thing : Edge.outside(0, 11)) {
            roads.refused("7: opens(" + thing + ", 0)", x -> x.opens(thing, 0), BAD);
            places.refused("7: opens(" + thing + ", 3)", x -> x.opens(thing, 3), BAD);
        }
        full.refused("7: opens(40, 0)", x -> x.opens(40, 0), BAD);
        new Edge(due, x -> x.ground(5, 5, true)).refused("7: opens(25, 0)", x -> x.opens(25, 0), BAD);
    }

    /** Promise 7: "BAD.": a SETTING that is none, of a THING of each KIND; THE TRACE stays. */
    private static void opensNoSetting() {
        for (int thing : new int[] {11, 0, 1, 2, 7}) {
            for (int setting : Edge.outside(0, 7)) {
                roads.refused("7: opens(" + thing + ", " + setting + ")", x -> x.opens(thing, setting), BAD);
            }
        }
        roads.refused("7: no THING, no SETTING", x -> x.opens(12, 8), BAD);
    }

    /**
     * Promise 7, Terms: "SHUT no (1). SURE not up (10). CHANCE up, if it has its WAY, else not up (100). TWIN what
     * its ELDER does (1000: the ELDER is asked). AGAINST not up (10000).": by the least and the greatest SETTING.
     */
    private static void opensEachKind() {
        OpenGrounds x = new OpenGrounds();
        Scenes.roads(x);
        int[] ofKind = {11, 0, 1, 2, 7};
        int[] byNone = {0, 1, 0, 0, 1};
        int[] byAll = {0, 1, 1, 1, 0};
        for (int kind = 0; kind <= 4; kind++) {
            due.is("7: KIND " + kind + " by 0", x.opens(ofKind[kind], 0), byNone[kind]);
            due.is("7: KIND " + kind + " by 7", x.opens(ofKind[kind], 7), byAll[kind]);
        }
    }

    // ---- promise 25

    /** Promise 25: "THE TRACE.": of a new object, of which opens() has asked nothing. */
    private static void traceAtFirst() {
        due.is("25: at first", new OpenGrounds().trace(), 0);
        new Edge(due, x -> { }).refused("25: refused at once", x -> x.opens(4, 0), BAD);
    }

    /** Promise 25, Terms: "numbers in brackets come to THE TRACE as often as opens() asks that body": of each KIND. */
    private static void traceOfEachKind() {
        int[] ofKind = {11, 0, 1, 2, 7};
        int[] asked = {1, 11, 111, 1111, 11111};
        for (int kind = 0; kind <= 4; kind++) {
            for (int setting : new int[] {0, 7}) {
                OpenGrounds x = new OpenGrounds();
                Scenes.roads(x);
                due.is("25: ahead", x.trace(), 11111);
                x.opens(ofKind[kind], setting);
                due.is("25: KIND " + kind + " by " + setting, x.trace(), 11111 + asked[kind]);
                due.is("25: trace() itself asks nothing", x.trace(), 11111 + asked[kind]);
            }
        }
    }

    /**
     * Promise 25, Terms: "come to THE TRACE as often as opens() asks": no other call does, a refused opens()
     * neither.
     */
    private static void traceOfOpensAlone() {
        roads.leaves("25: through()", x -> x.through(7, 0), 1);
        roads.leaves("25: wall()", x -> x.wall(7, 0), 0);
        roads.leaves("25: heap()", x -> x.heap(7, 0), 0);
        roads.leaves("25: heaps()", x -> x.heaps(7, 0), 1);
        roads.leaves("25: count()", x -> x.count(0, 3), 1);
        roads.leaves("25: walls()", x -> x.walls(0, 3), 0);
        roads.leaves("25: joined()", x -> x.joined(0, 0, 3), 1);
        roads.leaves("25: sized()", x -> x.sized(0, 0, 3), 0);
        roads.leaves("25: heapSum()", x -> x.heapSum(3), 1);
        roads.leaves("25: chance()", x -> x.chance(0, 1, 1), 1);
        roads.leaves("25: pivot()", x -> x.pivot(0, 3), BAD);
        roads.leaves("25: first()", x -> x.first(0, 3), 7);
        roads.leaves("25: opens() refused", x -> x.opens(0, 8), BAD);
        OpenGrounds x = new OpenGrounds();
        Scenes.roads(x);
        x.ground(1, 1, false);
        due.is("25: a new GROUND leaves it", x.trace(), 11111);
    }

    /**
     * Promise 25, "An object is used for at most 512 calls after it has been made": the greatest TRACE, by the
     * 512th.
     */
    private static void traceOf512Calls() {
        OpenGrounds x = new OpenGrounds();
        x.kind(0, 2);
        x.twin(1, 0, true);
        for (int call = 3; call < 512; call++) {
            x.opens(1, call % 2);
        }
        due.is("25: the 512th call", x.trace(), 509L * 11111);
    }

    // ---- promise 8

    /** Promise 8: "THROUGH 0, 1 by a SETTING: 1, 0. BAD.": no other way, though count() knows 2 and 3. */
    private static void throughWays() {
        due.is("8: ways 0 and 1", throughBoth(new OpenGrounds(), 0), 11);
        for (int way : Edge.outside(0, 1)) {
            roads.refused("8: through(0, " + way + ")", x -> x.through(0, way), BAD);
            places.refused("8: through(3, " + way + ")", x -> x.through(3, way), BAD);
        }
        roads.refused("8: through(0, 3)", x -> x.through(0, 3), BAD);
    }

    /** Promise 8: "BAD.": a SETTING that is none, for both ways. */
    private static void throughNoSetting() {
        for (int way = 0; way <= 1; way++) {
            int now = way;
            for (int setting : Edge.outside(0, 7)) {
                roads.refused("8: through(" + setting + ", " + way + ")", x -> x.through(setting, now), BAD);
            }
            for (int setting : Edge.outside(0, 3)) {
                places.refused("8: through(" + setting + ", " + way + ")", x -> x.through(setting, now), BAD);
            }
        }
        roads.refused("8: no SETTING, no way", x -> x.through(8, 2), BAD);
    }

    /** Promise 8, Terms: "(or are one OPEN PLACE)": a GROUND of one PLACE, OF ROADS, OF PLACES. */
    private static void throughOnePlace() {
        due.is("8: OF ROADS", throughBoth(fresh(1, 1, false), 0), 11);
        OpenGrounds x = fresh(1, 1, true);
        due.is("8: SURE", throughBoth(x, 0), 11);
        x.kind(0, 2);
        due.is("8: CHANCE, not OPEN", throughBoth(x, 0), 0);
        due.is("8: CHANCE, OPEN", throughBoth(x, 1), 11);
        x.kind(0, 0);
        due.is("8: SHUT", throughBoth(x, 0), 0);
    }

    /** Promise 8, Terms: "THROUGH 1: of the first row, of the last.": one row is both, so one OPEN PLACE is enough. */
    private static void throughOneRow() {
        due.is("8: all ROADS", throughBoth(fresh(1, 5, false), 0), 11);
        due.is("8: no ROAD", throughBoth(openOnly(1, 5, false), 0), 1);
        due.is("8: no PLACE", throughBoth(openOnly(1, 5, true), 0), 0);
        for (int thing = 0; thing < 5; thing++) {
            due.is("8: PLACE " + thing + " alone", throughBoth(openOnly(1, 5, true, thing), 0), 1);
        }
        for (int thing = 0; thing < 4; thing++) {
            due.is("8: ROAD " + thing + " alone SHUT", throughBoth(shutOnly(1, 5, thing), 0), 1);
        }
    }

    /**
     * Promise 8, Terms: "THROUGH 0: a PLACE of the first column and one of the last hang together": one column is
     * both.
     */
    private static void throughOneColumn() {
        due.is("8: all ROADS", throughBoth(fresh(5, 1, false), 0), 11);
        due.is("8: no ROAD", throughBoth(openOnly(5, 1, false), 0), 10);
        due.is("8: no PLACE", throughBoth(openOnly(5, 1, true), 0), 0);
        for (int thing = 0; thing < 5; thing++) {
            due.is("8: PLACE " + thing + " alone", throughBoth(openOnly(5, 1, true, thing), 0), 10);
        }
        for (int thing = 0; thing < 4; thing++) {
            due.is("8: ROAD " + thing + " alone SHUT", throughBoth(shutOnly(5, 1, thing), 0), 10);
        }
    }

    /**
     * Promise 8, Terms: "a PLACE of the first column and one of the last hang together": from the last corner to
     * the first.
     */
    private static void throughFromCornerToCorner() {
        int[] stair = {20, 21, 16, 17, 12, 13, 8, 9, 4};
        due.is("8: a stair", throughBoth(openOnly(5, 5, true, stair), 0), 11);
        OpenGrounds x = openOnly(5, 5, true, stair);
        x.kind(12, 0);
        due.is("8: a stair that is broken", throughBoth(x, 0), 0);
        due.is("8: all but the last column", throughBoth(openOnly(5, 2, true, 0, 2, 4, 6, 8), 0), 1);
        due.is("8: all but the first column", throughBoth(openOnly(5, 2, true, 1, 3, 5, 7, 9), 0), 1);
        due.is("8: all but the last row", throughBoth(openOnly(2, 5, true, 0, 1, 2, 3, 4), 0), 10);
        due.is("8: all but the first row", throughBoth(openOnly(2, 5, true, 5, 6, 7, 8, 9), 0), 10);
    }

    /** Promise 8, Terms: "between neighbours there are ROADS": a row's last PLACE and the next row's first are none. */
    private static void throughNotOverTheEdge() {
        OpenGrounds x = openOnly(2, 5, true, 3, 4, 5, 6);
        due.is("8: 4 and 5", throughBoth(x, 0), 0);
        due.is("10: 5 is not with 4", x.heap(0, 5), 5);
        due.is("11: two HEAPS", x.heaps(0, 0), 2);
        due.is("8: over the corner", throughBoth(openOnly(2, 2, true, 0, 3), 0), 0);
        due.is("8: over the other corner", throughBoth(openOnly(2, 2, true, 1, 2), 0), 0);
    }

    // ---- promise 9

    /** Promise 9: "WALL 0, 1 by a SETTING. BAD": no other way. */
    private static void wallWays() {
        due.is("9: way 0", fresh(3, 3, false).wall(0, 0), 0);
        due.is("9: way 1", fresh(3, 3, false).wall(0, 1), 0);
        for (int way : Edge.outside(0, 1)) {
            roads.refused("9: wall(0, " + way + ")", x -> x.wall(0, way), BAD);
        }
    }

    /** Promise 9: "BAD": a SETTING that is none, for both ways. */
    private static void wallNoSetting() {
        for (int way = 0; way <= 1; way++) {
            int now = way;
            for (int setting : Edge.outside(0, 7)) {
                roads.refused("9: wall(" + setting + ", " + way + ")", x -> x.wall(setting, now), BAD);
            }
        }
        roads.refused("9: no SETTING, no way", x -> x.wall(8, 2), BAD);
    }

    /** Promise 9: "STATE: the GROUND is OF PLACES." (Terms: "A WALL (OF ROADS alone)"). */
    private static void wallOfPlaces() {
        for (int way = 0; way <= 1; way++) {
            int now = way;
            places.refused("9: wall(0, " + way + ")", x -> x.wall(0, now), STATE);
            places.refused("9: wall(3, " + way + ")", x -> x.wall(3, now), STATE);
            due.is("9: one PLACE", fresh(1, 1, true).wall(0, way), STATE);
            OpenGrounds x = fresh(2, 2, true);
            x.ground(2, 2, false);
            due.is("9: OF ROADS again", x.wall(0, way), 0);
        }
    }

    /** Promise 9, Terms: "Refused, and nothing changes but status(), the first one here: BAD", then STATE. */
    private static void wallBadFirst() {
        for (int setting : Edge.outside(0, 3)) {
            places.refused("9: OF PLACES, wall(" + setting + ", 0)", x -> x.wall(setting, 0), BAD);
        }
        for (int way : Edge.outside(0, 1)) {
            places.refused("9: OF PLACES, wall(0, " + way + ")", x -> x.wall(0, way), BAD);
        }
    }

    private static int wallBoth(OpenGrounds x) {
        return x.wall(0, 0) * 10 + x.wall(0, 1);
    }

    /** Promise 9, Terms: "the gaps (r, c), r 0 .. ROWS, c 0 .. COLUMNS - 2": one PLACE has none. */
    private static void wallOfOnePlace() {
        due.is("9: one PLACE", wallBoth(fresh(1, 1, false)), 0);
    }

    /**
     * Promise 9, Terms: "from some (0, c) to some (ROWS, c).": one row, where one ROAD that is not OPEN is a WALL
     * 0.
     */
    private static void wallOfOneRow() {
        due.is("9: all SURE", wallBoth(fresh(1, 5, false)), 0);
        due.is("9: all SHUT", wallBoth(openOnly(1, 5, false)), 10);
        due.is("9: two PLACES", wallBoth(openOnly(1, 2, false)), 10);
        for (int thing = 0; thing < 4; thing++) {
            due.is("9: " + thing + " SHUT", wallBoth(shutOnly(1, 5, thing)), 10);
        }
    }

    /** Promise 9, Terms: "c 0 .. COLUMNS - 2": one column has no gaps, so no WALL 0, but a WALL 1. */
    private static void wallOfOneColumn() {
        due.is("9: all SURE", wallBoth(fresh(5, 1, false)), 0);
        due.is("9: all SHUT", wallBoth(openOnly(5, 1, false)), 1);
        due.is("9: two PLACES", wallBoth(openOnly(2, 1, false)), 1);
        for (int thing = 0; thing < 4; thing++) {
            due.is("9: " + thing + " SHUT", wallBoth(shutOnly(5, 1, thing)), 1);
        }
    }

    /**
     * Promise 9, Terms: "from (r, c) to (r + 1, c) over the ROAD from PLACE (r, c) to the right": two columns, where
     * every row's one is needed, the first and the last too, and rows alike for WALL 1.
     */
    private static void wallOfTwoColumns() {
        due.is("9: all five", wallBoth(shutOnly(5, 2, 0, 1, 2, 3, 4)), 10);
        due.is("9: all five of two rows", wallBoth(shutOnly(2, 5, 8, 9, 10, 11, 12)), 1);
        for (int left = 0; left < 5; left++) {
            OpenGrounds x = shutOnly(5, 2, 0, 1, 2, 3, 4);
            x.kind(left, 1);
            due.is("9: without row " + left, wallBoth(x), 0);
            OpenGrounds y = shutOnly(2, 5, 8, 9, 10, 11, 12);
            y.kind(8 + left, 1);
            due.is("9: without column " + left, wallBoth(y), 0);
        }
    }

    /**
     * Promise 9, Terms: "never over the first column's ROADS from PLACE to PLACE below, nor the last one's": with all
     * of those SHUT and the middle one's OPEN there is none; with the middle one's there is, to the right and to the left.
     */
    private static void wallNotOverOuterColumns() {
        due.is("9: outer columns, to the right", wallBoth(shutOnly(2, 3, 0, 3, 4, 6)), 0);
        due.is("9: outer columns, to the left", wallBoth(shutOnly(2, 3, 1, 2, 4, 6)), 0);
        due.is("9: the middle one, to the right", wallBoth(shutOnly(2, 3, 0, 3, 5)), 10);
        due.is("9: the middle one, to the left", wallBoth(shutOnly(2, 3, 1, 2, 5)), 10);
        due.is("9: two columns have no middle one", wallBoth(shutOnly(2, 2, 0, 2, 3)), 1);
        due.is("9: outer rows, downwards", wallBoth(shutOnly(3, 2, 3, 6, 0, 2)), 0);
        due.is("9: the middle row, downwards", wallBoth(shutOnly(3, 2, 3, 6, 1)), 1);
        due.is("9: the middle row, upwards", wallBoth(shutOnly(3, 2, 4, 5, 1)), 1);
    }

    /**
     * Promise 9, Terms: "from above the ground to below it one goes between its PLACES over ROADS that are not
     * OPEN": up too.
     */
    private static void wallGoesUpToo() {
        int[] winding = {0, 3, 14, 4, 11, 5, 8};
        due.is("9: winding", wallBoth(shutOnly(3, 4, winding)), 10);
        for (int gap : winding) {
            OpenGrounds x = shutOnly(3, 4, winding);
            x.kind(gap, 1);
            due.is("9: winding, " + gap + " OPEN", wallBoth(x), 0);
        }
    }

    /** Promise 9, Terms: "WALL 1 is that of the ground with rows and columns exchanged.": the same one, lying. */
    private static void wallExchanged() {
        int[] winding = {8, 9, 3, 12, 4, 15, 16};
        due.is("9: winding, lying", wallBoth(shutOnly(4, 3, winding)), 1);
        for (int gap : winding) {
            OpenGrounds x = shutOnly(4, 3, winding);
            x.kind(gap, 1);
            due.is("9: winding, lying, " + gap + " OPEN", wallBoth(x), 0);
        }
    }

    // ---- promise 10

    /** Promise 10: "BAD.", by Terms "there is no such thing": the PLACES beside the first and the last one. */
    private static void heapNoPlace() {
        due.is("10: the first PLACE", fresh(5, 5, false).heap(0, 0), 0);
        due.is("10: the last PLACE", fresh(5, 5, false).heap(0, 24), 0);
        for (int place : Edge.outside(0, 8)) {
            roads.refused("10: heap(0, " + place + ")", x -> x.heap(0, place), BAD);
        }
        for (int place : Edge.outside(0, 11)) {
            places.refused("10: heap(3, " + place + ")", x -> x.heap(3, place), BAD);
        }
        full.refused("10: heap(0, 25)", x -> x.heap(0, 25), BAD);
        due.is("10: one PLACE", fresh(1, 1, false).heap(0, 0), 0);
        due.is("10: no second PLACE", fresh(1, 1, false).heap(0, 1), BAD);
    }

    /** Promise 10: "BAD.": a SETTING that is none. */
    private static void heapNoSetting() {
        for (int setting : Edge.outside(0, 7)) {
            roads.refused("10: heap(" + setting + ", 0)", x -> x.heap(setting, 0), BAD);
        }
        roads.refused("10: no SETTING, no PLACE", x -> x.heap(8, 9), BAD);
    }

    /** Promise 10: "The least PLACE of the HEAP of a PLACE": each one alone, all in one, one row, one column. */
    private static void heapLeastPlace() {
        OpenGrounds apart = openOnly(5, 5, false);
        OpenGrounds one = fresh(5, 5, true);
        OpenGrounds rows = openOnly(5, 5, false, 0, 1, 2, 3, 4, 5, 6, 7, 8, 9, 10, 11, 12, 13, 14, 15, 16, 17, 18, 19);
        for (int place = 0; place < 25; place++) {
            due.is("10: apart " + place, apart.heap(0, place), place);
            due.is("10: all in one " + place, one.heap(0, place), 0);
            due.is("10: by rows " + place, rows.heap(0, place), place - place % 5);
        }
        due.is("10: the end of one row", fresh(1, 5, false).heap(0, 4), 0);
        due.is("10: the end of one column", fresh(5, 1, false).heap(0, 4), 0);
        due.is("10: the last two", openOnly(5, 5, true, 23, 24).heap(0, 24), 23);
    }

    /** Promise 10: "NONE: it is not OPEN.": SHUT, a CHANCE one without its WAY; OF ROADS never. */
    private static void heapNotOpen() {
        places.leaves("10: SHUT", x -> x.heap(0, 11), NONE);
        places.leaves("10: a CHANCE one without its WAY", x -> x.heap(0, 2), NONE);
        places.leaves("10: with its WAY", x -> x.heap(1, 2), 1);
        places.leaves("10: AGAINST it", x -> x.heap(1, 0), NONE);
        due.is("10: one PLACE", openOnly(1, 1, true).heap(0, 0), NONE);
        due.is("10: OF ROADS", openOnly(5, 5, false).heap(0, 24), 24);
    }

    // ---- promise 11

    /** Promise 11: "How many HEAPS there are (what = 0), how many PLACES the greatest has (1; 0 of none). BAD." */
    private static void heapsWhat() {
        due.is("11: what 0", fresh(3, 3, false).heaps(0, 0), 1);
        due.is("11: what 1", fresh(3, 3, false).heaps(0, 1), 9);
        for (int what : Edge.outside(0, 1)) {
            roads.refused("11: heaps(0, " + what + ")", x -> x.heaps(0, what), BAD);
            places.refused("11: heaps(3, " + what + ")", x -> x.heaps(3, what), BAD);
        }
    }

    /** Promise 11: "BAD.": a SETTING that is none. */
    private static void heapsNoSetting() {
        for (int what = 0; what <= 1; what++) {
            int now = what;
            for (int setting : Edge.outside(0, 7)) {
                roads.refused("11: heaps(" + setting + ", " + what + ")", x -> x.heaps(setting, now), BAD);
            }
        }
        roads.refused("11: no SETTING, no what", x -> x.heaps(8, 2), BAD);
    }

    /** Promise 11: "(1; 0 of none)": no PLACE is OPEN. */
    private static void heapsOfNone() {
        due.is("11: none of 25", openOnly(5, 5, true).heaps(0, 0), 0);
        due.is("11: the greatest of none", openOnly(5, 5, true).heaps(0, 1), 0);
        due.is("11: none of one", openOnly(1, 1, true).heaps(0, 0), 0);
        due.is("11: the greatest of none of one", openOnly(1, 1, true).heaps(0, 1), 0);
        due.is("11: one PLACE, OF ROADS", fresh(1, 1, false).heaps(0, 0) * 10 + fresh(1, 1, false).heaps(0, 1), 11);
    }

    /**
     * Promise 11: "How many HEAPS there are": 25 of one PLACE, one of 25, 13 that touch by corners, the last PLACE
     * alone.
     */
    private static void heapsMost() {
        OpenGrounds apart = openOnly(5, 5, false);
        due.is("11: 25 of one", apart.heaps(0, 0) * 100 + apart.heaps(0, 1), 2501);
        OpenGrounds one = fresh(5, 5, true);
        due.is("11: one of 25", one.heaps(0, 0) * 100 + one.heaps(0, 1), 125);
        OpenGrounds corners = openOnly(5, 5, true, 0, 2, 4, 6, 8, 10, 12, 14, 16, 18, 20, 22, 24);
        due.is("11: 13 of one", corners.heaps(0, 0) * 100 + corners.heaps(0, 1), 1301);
        OpenGrounds last = openOnly(5, 5, true, 24);
        due.is("11: the last alone", last.heaps(0, 0) * 100 + last.heaps(0, 1), 101);
        OpenGrounds late = openOnly(5, 5, true, 0, 18, 19, 23, 24);
        due.is("11: the greatest comes late", late.heaps(0, 0) * 100 + late.heaps(0, 1), 204);
    }
}
