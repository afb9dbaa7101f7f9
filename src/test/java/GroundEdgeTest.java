/** The boundary cases of the ground: promises 1 to 6, each test with the sentence of the document that it holds. */
public final class GroundEdgeTest {
    private static final Due due = new Due("GroundEdgeTest");
    private static final int BAD = -1, STATE = -2, FULL = -3, NONE = -9, NULL = -11;
    private static final int LEAST = Integer.MIN_VALUE, GREATEST = Integer.MAX_VALUE;
    private static final boolean[] BOTH = {false, true};

    private static final Edge roads = new Edge(due, Scenes::roads);
    private static final Edge places = new Edge(due, Scenes::places);
    private static final Edge full = new Edge(due, Scenes::full);

    public static void main(String[] args) {
        newGround();
        newHasNoSheet();
        rowsOneToFive();
        columnsOneToFive();
        rowsAndColumnsBothWrong();
        howManyThings();
        onePlace();
        newGroundIsAllSure();
        newGroundOfOtherSize();
        kindZeroToTwo();
        kindOfNoThing();
        kindThatItWas();
        kindOfAnElder();
        elderUntilTheLastLeaves();
        thirteenthChance();
        twelfthChance();
        chanceAgainAtTwelve();
        kindBadFirst();
        twinOfNoThing();
        twinOfNoElder();
        elderIsNoChance();
        elderIsItself();
        twinIsAnElder();
        twinBadFirst();
        twinOfAllOthers();
        twinAtTwelve();
        aboutWhat();
        aboutNoThing();
        aboutElder();
        aboutNumber();
        aboutPlaces();
        aboutOnePlace();
        toldWhat();
        toldLeastAndMost();
        due.end();
    }

    private static OpenGrounds fresh(int rows, int columns, boolean ofPlaces) {
        OpenGrounds x = new OpenGrounds();
        x.ground(rows, columns, ofPlaces);
        return x;
    }

    // ---- promise 1

    /** Promise 1: "A GROUND of 2 and 2, OF ROADS, all SURE." */
    private static void newGround() {
        OpenGrounds x = new OpenGrounds();
        due.is("1: rows", x.told(0), 2);
        due.is("1: columns", x.told(1), 2);
        due.is("1: of roads", x.told(2), 0);
        due.is("1: four roads", x.told(3), 4);
        due.is("1: no CHANCE one", x.told(4), 0);
        due.is("1: no TWIN", x.told(5), 0);
        due.is("1: the first is SURE", x.about(0, 0), 1);
        due.is("1: the last is SURE", x.about(3, 0), 1);
        due.is("1: no fifth", x.about(4, 0), BAD);
        due.is("1: the one SETTING", x.opens(3, 0), 1);
        due.is("1: no other SETTING", x.opens(3, 1), BAD);
        due.is("1: the last PLACE", x.heap(0, 3), 0);
        due.is("1: no fifth PLACE", x.heap(0, 4), BAD);
    }

    /** Promise 1, Terms: "SHEETS (3 at most at 0 .. 2)", "NULL (no SHEET": a new object has none of the three. */
    private static void newHasNoSheet() {
        for (int sheet = 0; sheet <= 2; sheet++) {
            due.is("1: no SHEET " + sheet, new OpenGrounds().row(sheet, 0, 0), NULL);
        }
    }

    // ---- promise 2

    /** Promise 2, Terms: "A GROUND has ROWS and COLUMNS of PLACES (1 .." "5 each; 2 and 2 at first)": the ROWS. BAD. */
    private static void rowsOneToFive() {
        for (boolean ofPlaces : BOTH) {
            OpenGrounds x = new OpenGrounds();
            due.is("2: one row", x.ground(1, 3, ofPlaces), ofPlaces ? 3 : 2);
            due.is("2: told one row", x.told(0) * 10 + x.told(1), 13);
            due.is("2: five rows", x.ground(5, 3, ofPlaces), ofPlaces ? 15 : 22);
            due.is("2: told five rows", x.told(0) * 10 + x.told(1), 53);
            for (int rows : Edge.outside(1, 5)) {
                roads.refused("2: ground(" + rows + ", 3)", y -> y.ground(rows, 3, ofPlaces), BAD);
                places.refused("2: ground(" + rows + ", 1)", y -> y.ground(rows, 1, ofPlaces), BAD);
            }
            roads.refused("2: ground(-1, 5)", y -> y.ground(-1, 5, ofPlaces), BAD);
        }
    }

    /**
     * Promise 2, Terms: "A GROUND has ROWS and COLUMNS of PLACES (1 .." "5 each; 2 and 2 at first)": the COLUMNS.
     * BAD.
     */
    private static void columnsOneToFive() {
        for (boolean ofPlaces : BOTH) {
            OpenGrounds x = new OpenGrounds();
            due.is("2: one column", x.ground(3, 1, ofPlaces), ofPlaces ? 3 : 2);
            due.is("2: told one column", x.told(0) * 10 + x.told(1), 31);
            due.is("2: five columns", x.ground(3, 5, ofPlaces), ofPlaces ? 15 : 22);
            due.is("2: told five columns", x.told(0) * 10 + x.told(1), 35);
            for (int columns : Edge.outside(1, 5)) {
                roads.refused("2: ground(3, " + columns + ")", y -> y.ground(3, columns, ofPlaces), BAD);
                places.refused("2: ground(1, " + columns + ")", y -> y.ground(1, columns, ofPlaces), BAD);
            }
            roads.refused("2: ground(5, -1)", y -> y.ground(5, -1, ofPlaces), BAD);
        }
    }

    /** Promise 2: "BAD." where ROWS and COLUMNS are both wrong, though their product is not. */
    private static void rowsAndColumnsBothWrong() {
        for (boolean ofPlaces : BOTH) {
            roads.refused("2: ground(0, 0)", y -> y.ground(0, 0, ofPlaces), BAD);
            roads.refused("2: ground(-2, -2)", y -> y.ground(-2, -2, ofPlaces), BAD);
            roads.refused("2: ground(6, 6)", y -> y.ground(6, 6, ofPlaces), BAD);
            roads.refused("2: ground(1, 6)", y -> y.ground(1, 6, ofPlaces), BAD);
            roads.refused("2: ground(6, 1)", y -> y.ground(6, 1, ofPlaces), BAD);
            places.refused("2: ground(least, least)", y -> y.ground(LEAST, LEAST, ofPlaces), BAD);
            places.refused("2: ground(greatest, greatest)", y -> y.ground(GREATEST, GREATEST, ofPlaces), BAD);
        }
    }

    /** Promise 2: "all THINGS SURE: how many THINGS." at the least and the greatest grounds. */
    private static void howManyThings() {
        OpenGrounds x = new OpenGrounds();
        due.is("2: one PLACE has no ROAD", x.ground(1, 1, false), 0);
        due.is("2: one PLACE", x.ground(1, 1, true), 1);
        due.is("2: two PLACES, one ROAD", x.ground(1, 2, false), 1);
        due.is("2: two PLACES, one ROAD down", x.ground(2, 1, false), 1);
        due.is("2: one row of ROADS", x.ground(1, 5, false), 4);
        due.is("2: one column of ROADS", x.ground(5, 1, false), 4);
        due.is("2: one row of PLACES", x.ground(1, 5, true), 5);
        due.is("2: one column of PLACES", x.ground(5, 1, true), 5);
        due.is("2: most PLACES", x.ground(5, 5, true), 25);
        due.is("2: most ROADS", x.ground(5, 5, false), 40);
        due.is("2: told of them", x.told(3), 40);
    }

    /** Promise 2, Terms: "these are its THINGS; the others are all open." where a GROUND has no THING at all. */
    private static void onePlace() {
        Edge none = new Edge(due, x -> x.ground(1, 1, false));
        none.refused("3: kind(0, 1)", x -> x.kind(0, 1), BAD);
        none.refused("4: twin(0, 0)", x -> x.twin(0, 0, false), BAD);
        none.refused("5: about(0, 0)", x -> x.about(0, 0), BAD);
        none.refused("7: opens(0, 0)", x -> x.opens(0, 0), BAD);
        OpenGrounds x = fresh(1, 1, false);
        due.is("2: told(3)", x.told(3), 0);
        due.is("10: its PLACE is open", x.heap(0, 0), 0);
    }

    /**
     * Promise 2: "A new GROUND (ofPlaces: OF PLACES), all THINGS SURE": from as many CHANCE ones and TWINS as may
     * be.
     */
    private static void newGroundIsAllSure() {
        for (boolean ofPlaces : BOTH) {
            OpenGrounds x = new OpenGrounds();
            Scenes.full(x);
            for (int thing = 12; thing < 40; thing++) {
                x.twin(thing, thing % 12, thing % 2 == 0);
            }
            int things = x.ground(5, 5, ofPlaces);
            due.is("2: of PLACES", x.told(2), ofPlaces ? 1 : 0);
            due.is("2: no CHANCE one", x.told(4), 0);
            due.is("2: no TWIN", x.told(5), 0);
            for (int thing = 0; thing < things; thing++) {
                due.is("2: SURE " + thing, x.about(thing, 0), 1);
                due.is("2: no ELDER of " + thing, x.about(thing, 1), NONE);
                due.is("2: no number of " + thing, x.about(thing, 2), NONE);
                due.is("2: open " + thing, x.opens(thing, 0), 1);
                due.is("2: no ELDER itself " + thing, x.kind(thing, 0), 1);
            }
            due.is("2: one SETTING", x.opens(0, 1), BAD);
        }
    }

    /**
     * Promise 2: "A new GROUND (ofPlaces: OF PLACES), all THINGS SURE": what lay beyond a small one does not come
     * back.
     */
    private static void newGroundOfOtherSize() {
        OpenGrounds x = fresh(5, 5, false);
        x.kind(39, 2);
        x.twin(38, 39, true);
        x.kind(37, 0);
        due.is("2: one PLACE", x.ground(1, 1, true), 1);
        due.is("2: no THING 37", x.about(37, 0), BAD);
        due.is("2: no CHANCE one", x.told(4), 0);
        due.is("2: no AGAINST one", x.told(5), 0);
        due.is("2: forty again", x.ground(5, 5, false), 40);
        due.is("2: 37 is SURE", x.about(37, 0), 1);
        due.is("2: 38 is SURE", x.about(38, 0), 1);
        due.is("2: 39 is SURE", x.about(39, 0), 1);
        due.is("2: 39 is no ELDER", x.kind(39, 0), 1);
    }

    // ---- promise 3

    /** Promise 3: "A THING becomes one of a KIND 0 .. 2: the KIND that it was. BAD": no other KIND, for no THING. */
    private static void kindZeroToTwo() {
        OpenGrounds x = fresh(3, 3, false);
        due.is("3: KIND 0", x.kind(0, 0), 1);
        due.is("3: it is SHUT", x.about(0, 0), 0);
        due.is("3: KIND 2", x.kind(0, 2), 0);
        due.is("3: it is a CHANCE one", x.about(0, 0), 2);
        for (int thing : new int[] {0, 1, 2, 7, 11}) {
            for (int kind : Edge.outside(0, 2)) {
                roads.refused("3: kind(" + thing + ", " + kind + ")", y -> y.kind(thing, kind), BAD);
            }
            roads.refused("3: kind(" + thing + ", 4)", y -> y.kind(thing, 4), BAD);
        }
    }

    /** Promise 3: "BAD", by Terms "there is no such thing": the THINGS beside the first and the last one. */
    private static void kindOfNoThing() {
        OpenGrounds x = fresh(5, 5, false);
        due.is("3: the first THING", x.kind(0, 0), 1);
        due.is("3: the last of forty", x.kind(39, 0), 1);
        x.ground(5, 5, true);
        due.is("3: the last of 25", x.kind(24, 0), 1);
        for (int kind = 0; kind <= 2; kind++) {
            int now = kind;
            for (int thing : Edge.outside(0, 11)) {
                roads.refused("3: kind(" + thing + ", " + kind + ")", y -> y.kind(thing, now), BAD);
                places.refused("3: kind(" + thing + ", " + kind + ")", y -> y.kind(thing, now), BAD);
            }
            Edge mostPlaces = new Edge(due, y -> y.ground(5, 5, true));
            mostPlaces.refused("3: kind(25, " + kind + ")", y -> y.kind(25, now), BAD);
            Edge mostRoads = new Edge(due, y -> y.ground(5, 5, false));
            mostRoads.refused("3: kind(40, " + kind + ")", y -> y.kind(40, now), BAD);
        }
    }

    /** Promise 3: "the KIND that it was", from each of the five KINDS to each of the three. */
    private static void kindThatItWas() {
        int[] ofKind = {11, 0, 1, 2, 7};
        for (int was = 0; was <= 4; was++) {
            for (int kind = 0; kind <= 2; kind++) {
                OpenGrounds x = new OpenGrounds();
                Scenes.roads(x);
                due.is("3: from " + was + " to " + kind, x.kind(ofKind[was], kind), was);
                due.is("3: it is " + kind, x.about(ofKind[was], 0), kind);
                due.is("3: without ELDER", x.about(ofKind[was], 1), NONE);
                int last = (1 << x.told(4)) - 1;
                due.is("3: now " + kind + ", by the least SETTING", x.opens(ofKind[was], 0), kind == 1 ? 1 : 0);
                due.is("3: now " + kind + ", by the greatest SETTING", x.opens(ofKind[was], last), kind == 0 ? 0 : 1);
            }
        }
    }

    /** Promise 3: "STATE: it is the ELDER of some one, and would be no CHANCE one": of a TWIN, of one AGAINST it. */
    private static void kindOfAnElder() {
        for (int elder : new int[] {4, 9}) {
            roads.refused("3: kind(" + elder + ", 0)", x -> x.kind(elder, 0), STATE);
            roads.refused("3: kind(" + elder + ", 1)", x -> x.kind(elder, 1), STATE);
            roads.leaves("3: kind(" + elder + ", 2)", x -> x.kind(elder, 2), 2);
        }
        Edge ends = new Edge(due, x -> {
            x.ground(5, 5, false);
            x.kind(0, 2);
            x.kind(39, 2);
            x.twin(38, 0, false);
            x.twin(1, 39, true);
        });
        ends.refused("3: the first THING, ELDER of a late one", x -> x.kind(0, 1), STATE);
        ends.refused("3: the last THING, ELDER of an early one", x -> x.kind(39, 0), STATE);
        Edge last = new Edge(due, x -> {
            x.kind(0, 2);
            x.twin(3, 0, false);
        });
        last.refused("3: ELDER of the last THING", x -> x.kind(0, 1), STATE);
        Edge first = new Edge(due, x -> {
            x.kind(3, 2);
            x.twin(0, 3, true);
        });
        first.refused("3: ELDER of the first THING", x -> x.kind(3, 1), STATE);
    }

    /** Promise 3: "STATE: it is the ELDER of some one": as long as there is one, and no longer. */
    private static void elderUntilTheLastLeaves() {
        OpenGrounds x = new OpenGrounds();
        x.kind(0, 2);
        x.kind(3, 2);
        due.is("3: of none", x.kind(0, 1), 2);
        x.kind(0, 2);
        x.twin(1, 0, false);
        x.twin(2, 0, true);
        due.is("3: of two", x.kind(0, 1), STATE);
        due.is("3: the TWIN leaves", x.kind(1, 1), 3);
        due.is("3: of one", x.kind(0, 1), STATE);
        due.is("3: the last goes to another ELDER", x.twin(2, 3, true), 4);
        due.is("3: of none any more", x.kind(0, 1), 2);
        due.is("3: the other ELDER", x.kind(3, 0), STATE);
    }

    /** Promise 3: "FULL: a 13th CHANCE one." (Terms: "At most 12 are CHANCE ones"): from each other KIND. */
    private static void thirteenthChance() {
        full.refused("3: a TWIN", x -> x.kind(12, 2), FULL);
        full.refused("3: one AGAINST", x -> x.kind(13, 2), FULL);
        full.refused("3: a SHUT one", x -> x.kind(14, 2), FULL);
        full.refused("3: a SURE one", x -> x.kind(15, 2), FULL);
        full.refused("3: the last THING", x -> x.kind(39, 2), FULL);
        Edge ofPlaces = new Edge(due, x -> {
            x.ground(4, 4, true);
            Scenes.chances(x, 12);
        });
        ofPlaces.refused("3: a PLACE", x -> x.kind(12, 2), FULL);
    }

    /** Promise 3, Terms: "At most 12 are CHANCE ones": the 12th, from each other KIND, and again when one has left. */
    private static void twelfthChance() {
        int[] ofKind = {14, 39, 12, 13};
        int[] kinds = {0, 1, 3, 4};
        for (int i = 0; i < kinds.length; i++) {
            OpenGrounds x = new OpenGrounds();
            Scenes.full(x);
            due.is("3: twelve", x.told(4), 12);
            due.is("3: a 13th", x.kind(ofKind[i], 2), FULL);
            due.is("3: one leaves", x.kind(5, i % 2), 2);
            due.is("3: eleven", x.told(4), 11);
            due.is("3: a 12th of KIND " + kinds[i], x.kind(ofKind[i], 2), kinds[i]);
            due.is("3: twelve again", x.told(4), 12);
            due.is("3: a 13th again", x.kind(38, 2), FULL);
            due.is("3: 4096 SETTINGS", x.opens(ofKind[i], 4095), 1);
        }
    }

    /** Promise 3: "FULL: a 13th CHANCE one.": one of the twelve becomes a CHANCE one once more, which is no 13th. */
    private static void chanceAgainAtTwelve() {
        full.leaves("3: the first, an ELDER,", x -> x.kind(0, 2), 2);
        full.leaves("3: the fifth", x -> x.kind(4, 2), 2);
        full.leaves("3: the twelfth", x -> x.kind(11, 2), 2);
        OpenGrounds x = new OpenGrounds();
        Scenes.full(x);
        due.is("3: the other KINDS are not FULL: SHUT", x.kind(39, 0), 1);
        due.is("3: the other KINDS are not FULL: SURE", x.kind(12, 1), 3);
    }

    /** Promise 3, Terms: "Refused, and nothing changes but status(), the first one here: BAD", then STATE, FULL. */
    private static void kindBadFirst() {
        roads.refused("3: an ELDER, KIND 3", x -> x.kind(4, 3), BAD);
        roads.refused("3: an ELDER, KIND -1", x -> x.kind(4, -1), BAD);
        roads.refused("3: no THING, no KIND", x -> x.kind(12, 3), BAD);
        full.refused("3: no THING would be a 13th", x -> x.kind(40, 2), BAD);
        full.refused("3: THING -1 would be a 13th", x -> x.kind(-1, 2), BAD);
        full.refused("3: KIND 3 at twelve", x -> x.kind(39, 3), BAD);
        full.refused("3: an ELDER at twelve", x -> x.kind(0, 1), STATE);
    }

    // ---- promise 4

    /** Promise 4, by Terms "BAD (a number is not as told, or there is no such thing)": the THING. */
    private static void twinOfNoThing() {
        for (boolean against : BOTH) {
            for (int thing : Edge.outside(0, 11)) {
                roads.refused("4: twin(" + thing + ", 1)", x -> x.twin(thing, 1, against), BAD);
                places.refused("4: twin(" + thing + ", 2)", x -> x.twin(thing, 2, against), BAD);
            }
            full.refused("4: twin(40, 5)", x -> x.twin(40, 5, against), BAD);
            OpenGrounds x = fresh(5, 5, false);
            x.kind(5, 2);
            due.is("4: the first THING", x.twin(0, 5, against), 1);
            due.is("4: the last THING", x.twin(39, 5, against), 1);
            due.is("4: both", x.told(5), 2);
        }
    }

    /** Promise 4, by Terms "BAD (a number is not as told, or there is no such thing)": the ELDER. */
    private static void twinOfNoElder() {
        for (boolean against : BOTH) {
            for (int elder : Edge.outside(0, 11)) {
                roads.refused("4: twin(0, " + elder + ")", x -> x.twin(0, elder, against), BAD);
                places.refused("4: twin(1, " + elder + ")", x -> x.twin(1, elder, against), BAD);
            }
            roads.refused("4: twin(0, NONE)", x -> x.twin(0, NONE, against), BAD);
            full.refused("4: twin(20, 40)", x -> x.twin(20, 40, against), BAD);
            OpenGrounds x = fresh(5, 5, false);
            x.kind(0, 2);
            x.kind(39, 2);
            due.is("4: of the first THING", x.twin(5, 0, against), 1);
            due.is("4: its ELDER is 0", x.about(5, 1), 0);
            due.is("4: of the last THING", x.twin(6, 39, against), 1);
            due.is("4: its ELDER is 39", x.about(6, 1), 39);
        }
    }

    /** Promise 4: "BAD: the ELDER is no CHANCE one": it is SHUT, SURE, a TWIN, AGAINST one. */
    private static void elderIsNoChance() {
        for (boolean against : BOTH) {
            for (int elder : new int[] {11, 3, 2, 7}) {
                roads.refused("4: twin(0, " + elder + ")", x -> x.twin(0, elder, against), BAD);
                roads.refused("4: twin(1, " + elder + ")", x -> x.twin(1, elder, against), BAD);
            }
            OpenGrounds x = new OpenGrounds();
            x.kind(0, 2);
            due.is("4: a CHANCE one", x.twin(1, 0, against), 1);
            due.is("4: no CHANCE one", x.twin(2, 1, against), BAD);
        }
    }

    /** Promise 4: "BAD: the ELDER is no CHANCE one, or the THING itself": of each KIND. */
    private static void elderIsItself() {
        for (boolean against : BOTH) {
            for (int thing : new int[] {11, 0, 1, 2, 7, 4}) {
                roads.refused("4: twin(" + thing + ", " + thing + ")", x -> x.twin(thing, thing, against), BAD);
            }
        }
    }

    /** Promise 4: "STATE: the THING is an ELDER.": of a TWIN, of one AGAINST it, until the last one leaves. */
    private static void twinIsAnElder() {
        for (boolean against : BOTH) {
            roads.refused("4: twin(4, 1)", x -> x.twin(4, 1, against), STATE);
            roads.refused("4: twin(4, 9)", x -> x.twin(4, 9, against), STATE);
            roads.refused("4: twin(9, 1)", x -> x.twin(9, 1, against), STATE);
            roads.refused("4: twin(9, 4)", x -> x.twin(9, 4, against), STATE);
            OpenGrounds x = new OpenGrounds();
            Scenes.roads(x);
            due.is("4: a CHANCE one that is no ELDER", x.twin(1, 4, against), 2);
            due.is("4: its TWIN leaves", x.kind(2, 0), 3);
            due.is("4: an ELDER of 1 still", x.twin(4, 9, against), STATE);
            due.is("4: 1 leaves", x.twin(1, 9, against), against ? 4 : 3);
            due.is("4: an ELDER no more", x.twin(4, 9, against), 2);
            due.is("4: one CHANCE one is left", x.told(4), 1);
        }
    }

    /** Promise 4, Terms: "Refused, and nothing changes but status(), the first one here: BAD", then STATE. */
    private static void twinBadFirst() {
        for (boolean against : BOTH) {
            for (int elder : new int[] {-1, 12, LEAST, GREATEST, 0, 2, 7, 11, 4}) {
                roads.refused("4: an ELDER, twin(4, " + elder + ")", x -> x.twin(4, elder, against), BAD);
            }
        }
    }

    /**
     * Promise 4, Terms: "TWIN and AGAINST have an ELDER, a THING that is a CHANCE one.": one ELDER of all the
     * others.
     */
    private static void twinOfAllOthers() {
        OpenGrounds x = fresh(5, 5, false);
        x.kind(39, 2);
        for (int thing = 0; thing < 39; thing++) {
            due.is("4: THING " + thing, x.twin(thing, 39, thing % 2 == 1), 1);
        }
        due.is("6: TWINS and AGAINST ones", x.told(5), 39);
        due.is("6: one CHANCE one", x.told(4), 1);
        due.is("4: the last TWIN opens with it", x.opens(38, 1) * 10 + x.opens(38, 0), 10);
        due.is("4: the last one AGAINST opens against it", x.opens(37, 1) * 10 + x.opens(37, 0), 1);
    }

    /** Promise 4: a TWIN is no CHANCE one: "FULL: a 13th CHANCE one." does not hold it up. */
    private static void twinAtTwelve() {
        OpenGrounds x = new OpenGrounds();
        Scenes.full(x);
        for (int thing = 12; thing < 40; thing++) {
            x.twin(thing, thing % 12, thing % 2 == 0);
        }
        due.is("4: twelve and 28", x.told(4) * 100 + x.told(5), 1228);
        due.is("4: the last THING", x.about(39, 0) * 100 + x.about(39, 1), 303);
    }

    // ---- promise 5

    /**
     * Promise 5: "Of a THING: 0 KIND, 1 ELDER (NONE), 2 its number as a CHANCE one (NONE), 3 and 4 the PLACES": 0
     * .. 4.
     */
    private static void aboutWhat() {
        OpenGrounds x = new OpenGrounds();
        Scenes.roads(x);
        due.is("5: what 0", x.about(7, 0), 4);
        due.is("5: what 4", x.about(7, 4), 4);
        for (int thing : new int[] {0, 4, 11}) {
            for (int what : Edge.outside(0, 4)) {
                roads.refused("5: about(" + thing + ", " + what + ")", y -> y.about(thing, what), BAD);
            }
        }
    }

    /** Promise 5: "BAD.", by Terms "there is no such thing". */
    private static void aboutNoThing() {
        for (int what = 0; what <= 4; what++) {
            int now = what;
            for (int thing : Edge.outside(0, 11)) {
                roads.refused("5: about(" + thing + ", " + what + ")", x -> x.about(thing, now), BAD);
                places.refused("5: about(" + thing + ", " + what + ")", x -> x.about(thing, now), BAD);
            }
            due.is("5: no 41st ROAD", fresh(5, 5, false).about(40, what), BAD);
            due.is("5: no 26th PLACE", fresh(5, 5, true).about(25, what), BAD);
        }
        due.is("5: the 40th ROAD", fresh(5, 5, false).about(39, 0), 1);
        due.is("5: the 25th PLACE", fresh(5, 5, true).about(24, 0), 1);
        due.is("5: no THING, no what", fresh(5, 5, true).about(25, 5), BAD);
    }

    /** Promise 5: "1 ELDER (NONE)": of SHUT, SURE and CHANCE none; THING 0 is one. */
    private static void aboutElder() {
        OpenGrounds x = new OpenGrounds();
        x.kind(0, 2);
        x.twin(3, 0, false);
        x.kind(1, 0);
        due.is("5: of a CHANCE one", x.about(0, 1), NONE);
        due.is("5: of a SHUT one", x.about(1, 1), NONE);
        due.is("5: of a SURE one", x.about(2, 1), NONE);
        due.is("5: of a TWIN, THING 0", x.about(3, 1), 0);
        x.twin(3, 0, true);
        due.is("5: of one AGAINST, THING 0", x.about(3, 1), 0);
        x.kind(3, 2);
        due.is("5: no longer", x.about(3, 1), NONE);
    }

    /** Promise 5, Terms: "they are numbered by their THINGS' numbers": 0 .. 11, whatever became one first. */
    private static void aboutNumber() {
        OpenGrounds x = fresh(5, 5, false);
        for (int i = 11; i >= 0; i--) {
            x.kind(39 - 3 * i, 2);
        }
        for (int i = 0; i < 12; i++) {
            due.is("5: number of " + (6 + 3 * i), x.about(6 + 3 * i, 2), i);
        }
        x.twin(0, 39, false);
        x.twin(1, 39, true);
        x.kind(2, 0);
        for (int thing : new int[] {0, 1, 2, 3, 38}) {
            due.is("5: no number of " + thing, x.about(thing, 2), NONE);
        }
        x.kind(6, 1);
        due.is("5: the first has left", x.about(9, 2), 0);
        due.is("5: the last moves up", x.about(39, 2), 10);
    }

    /**
     * Promise 5, Terms: "numbered first those of a PLACE and the one right of it, by rows, then those of a PLACE
     * and the one below it, by rows": every ROAD of every ground, one row and one column among them.
     */
    private static void aboutPlaces() {
        for (int rows = 1; rows <= 5; rows++) {
            for (int columns = 1; columns <= 5; columns++) {
                OpenGrounds x = fresh(rows, columns, false);
                int road = 0;
                for (int place = 0; place < rows * columns; place++) {
                    if (place % columns < columns - 1) {
                        due.is("5: right of " + place, x.about(road, 3) * 100 + x.about(road, 4), place * 100 + place + 1);
                        road++;
                    }
                }
                for (int place = 0; place < (rows - 1) * columns; place++) {
                    due.is("5: below " + place, x.about(road, 3) * 100 + x.about(road, 4), place * 100 + place + columns);
                    road++;
                }
                due.is("5: no ROAD more, first PLACE", x.about(road, 3), BAD);
                due.is("5: no ROAD more, other PLACE", x.about(road, 4), BAD);
            }
        }
    }

    /**
     * Promise 5: "3 and 4 the PLACES of a ROAD (of a PLACE it, both)": every PLACE, the first and the last among
     * them.
     */
    private static void aboutOnePlace() {
        OpenGrounds one = fresh(1, 1, true);
        due.is("5: the only PLACE", one.about(0, 3) * 100 + one.about(0, 4), 0);
        OpenGrounds x = fresh(5, 5, true);
        for (int place = 0; place < 25; place++) {
            due.is("5: PLACE " + place, x.about(place, 3) * 100 + x.about(place, 4), place * 101);
        }
    }

    // ---- promise 6

    /**
     * Promise 6: "0 ROWS, 1 COLUMNS, 2 whether it is OF PLACES, 3 THINGS, 4 CHANCE ones, 5 TWINS and AGAINST ones.
     * BAD."
     */
    private static void toldWhat() {
        OpenGrounds x = new OpenGrounds();
        Scenes.places(x);
        int[] told = {3, 4, 1, 12, 2, 2};
        for (int what = 0; what <= 5; what++) {
            due.is("6: told(" + what + ")", x.told(what), told[what]);
        }
        for (int what : Edge.outside(0, 5)) {
            roads.refused("6: told(" + what + ")", y -> y.told(what), BAD);
            places.refused("6: told(" + what + ")", y -> y.told(what), BAD);
        }
    }

    /** Promise 6: "3 THINGS, 4 CHANCE ones, 5 TWINS and AGAINST ones": none of them, and as many as may be. */
    private static void toldLeastAndMost() {
        OpenGrounds x = fresh(1, 1, false);
        int[] least = {1, 1, 0, 0, 0, 0};
        for (int what = 0; what <= 5; what++) {
            due.is("6: least told(" + what + ")", x.told(what), least[what]);
        }
        Scenes.full(x);
        for (int thing = 12; thing < 40; thing++) {
            x.twin(thing, 11, thing % 2 == 0);
        }
        int[] most = {5, 5, 0, 40, 12, 28};
        for (int what = 0; what <= 5; what++) {
            due.is("6: most told(" + what + ")", x.told(what), most[what]);
        }
    }
}
