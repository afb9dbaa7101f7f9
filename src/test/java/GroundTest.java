/** Promises 1 to 6: the ground and its things. */
public final class GroundTest {
    private static final Due due = new Due("GroundTest");
    private static final int BAD = -1, STATE = -2, FULL = -3, NONE = -9;

    public static void main(String[] args) {
        newObject();
        grounds();
        groundIsNew();
        groundRefused();
        kinds();
        kindRefused();
        twins();
        twinRefused();
        abouts();
        tolds();
        due.end();
    }

    private static void newObject() {
        OpenGrounds x = new OpenGrounds();
        int[] told = {2, 2, 0, 4, 0, 0};
        for (int what = 0; what < told.length; what++) {
            due.is("1: told " + what, x.told(what), told[what]);
        }
        for (int thing = 0; thing < 4; thing++) {
            due.is("1: kind of " + thing, x.about(thing, 0), 1);
            due.is("1: opens " + thing, x.opens(thing, 0), 1);
        }
        due.is("1: status", new OpenGrounds().status(), 0);
        due.is("1: trace", new OpenGrounds().trace(), 0);
        due.is("1: no sheet", new OpenGrounds().row(2, 0, 1), -11);
    }

    private static void grounds() {
        OpenGrounds x = new OpenGrounds();
        for (int rows = 1; rows <= 5; rows++) {
            for (int columns = 1; columns <= 5; columns++) {
                int roads = rows * (columns - 1) + (rows - 1) * columns;
                due.is("2: of roads " + rows + " " + columns, x.ground(rows, columns, false), roads);
                due.is("2: told of roads", x.told(2) * 100 + x.told(3), roads);
                due.is("2: of places " + rows + " " + columns, x.ground(rows, columns, true), rows * columns);
                due.is("2: told of places", x.told(2) * 100 + x.told(3), 100 + rows * columns);
                due.is("2: rows and columns", x.told(0) * 10 + x.told(1), rows * 10 + columns);
            }
        }
    }

    private static void groundIsNew() {
        OpenGrounds x = new OpenGrounds();
        x.kind(0, 2);
        x.twin(1, 0, true);
        x.kind(2, 0);
        x.sheet(1, 1, 1);
        x.row(1, 0, 3);
        x.put(1, 1, 0, 9, 1);
        x.opens(1, 0);
        due.is("2: the same once more", x.ground(2, 2, false), 4);
        for (int thing = 0; thing < 4; thing++) {
            due.is("2: SURE " + thing, x.about(thing, 0), 1);
            due.is("2: no elder " + thing, x.about(thing, 1), NONE);
            due.is("2: no number " + thing, x.about(thing, 2), NONE);
        }
        due.is("2: told 4 and 5", x.told(4) + x.told(5), 0);
        due.is("2: an elder no more", x.kind(0, 0), 1);
        due.is("2: the trace stays", x.trace(), 11111);
        due.is("2: status stays", x.status(), -12);
        due.is("2: sheets stay", x.put(1, 1, 0, 2, 1), 1);
    }

    private static void groundRefused() {
        OpenGrounds x = new OpenGrounds();
        x.ground(3, 4, true);
        x.kind(5, 2);
        int[] wrong = {0, 6, -1, Integer.MIN_VALUE, Integer.MAX_VALUE};
        for (int number : wrong) {
            due.is("2: rows " + number, x.ground(number, 3, false), BAD);
            due.is("2: columns " + number, x.ground(3, number, false), BAD);
        }
        due.is("2: nothing changes", x.told(0) * 1000 + x.told(1) * 100 + x.told(2) * 10 + x.about(5, 0), 3412);
    }

    private static void kinds() {
        OpenGrounds x = new OpenGrounds();
        due.is("3: SURE to SHUT", x.kind(3, 0), 1);
        due.is("3: SHUT to CHANCE", x.kind(3, 2), 0);
        due.is("3: CHANCE to CHANCE", x.kind(3, 2), 2);
        due.is("3: CHANCE to SURE", x.kind(3, 1), 2);
        due.is("3: SURE to SURE", x.kind(3, 1), 1);
        x.kind(3, 2);
        x.twin(0, 3, false);
        x.twin(1, 3, true);
        due.is("3: an ELDER stays CHANCE", x.kind(3, 2), 2);
        due.is("3: TWIN to CHANCE", x.kind(0, 2), 3);
        due.is("3: its ELDER is gone", x.about(0, 1), NONE);
        due.is("3: AGAINST to SHUT", x.kind(1, 0), 4);
        due.is("3: no ELDER any more", x.kind(3, 1), 2);
        due.is("3: numbers move up", x.about(0, 2), 0);
    }

    private static void kindRefused() {
        OpenGrounds x = new OpenGrounds();
        due.is("3: thing -1", x.kind(-1, 1), BAD);
        due.is("3: thing 4", x.kind(4, 1), BAD);
        due.is("3: thing 39", x.kind(39, 2), BAD);
        due.is("3: kind -1", x.kind(0, -1), BAD);
        due.is("3: kind 3", x.kind(0, 3), BAD);
        due.is("3: kind 4", x.kind(0, 4), BAD);
        due.is("3: great", x.kind(Integer.MAX_VALUE, Integer.MIN_VALUE), BAD);
        x.kind(0, 2);
        x.twin(1, 0, false);
        due.is("3: ELDER to SHUT", x.kind(0, 0), STATE);
        due.is("3: ELDER to SURE", x.kind(0, 1), STATE);
        due.is("3: BAD is ahead of STATE", x.kind(0, 5), BAD);
        due.is("3: it is CHANCE still", x.about(0, 0), 2);
        due.is("3: status is of sheets alone", x.status(), 0);
        x.ground(5, 5, false);
        x.kind(39, 2);
        x.kind(38, 2);
        x.twin(0, 39, true);
        due.is("3: the last one is the ELDER of the first", x.kind(39, 1), STATE);
        due.is("3: the last but one is not", x.kind(38, 1), 2);
        x.kind(1, 2);
        x.twin(38, 1, false);
        due.is("3: an ELDER of a later one", x.kind(1, 0), STATE);

        x.ground(4, 4, true);
        for (int thing = 0; thing < 12; thing++) {
            due.is("3: CHANCE one " + thing, x.kind(thing, 2), 1);
        }
        due.is("3: a 13th", x.kind(12, 2), FULL);
        due.is("3: it is SURE still", x.about(12, 0), 1);
        due.is("3: twelve", x.told(4), 12);
        due.is("3: one of them again", x.kind(11, 2), 2);
        x.twin(12, 0, false);
        due.is("3: a TWIN as a 13th", x.kind(12, 2), FULL);
        due.is("3: it is a TWIN still", x.about(12, 0) * 100 + x.about(12, 1), 300);
        x.kind(11, 0);
        due.is("3: now a 12th", x.kind(12, 2), 3);
        due.is("3: the ground has no 17th place", x.kind(16, 2), BAD);
    }

    private static void twins() {
        OpenGrounds x = new OpenGrounds();
        x.ground(2, 3, true);
        x.kind(1, 2);
        x.kind(4, 2);
        due.is("4: TWIN", x.twin(0, 4, false), 1);
        due.is("4: kind and elder", x.about(0, 0) * 10 + x.about(0, 1), 34);
        due.is("4: AGAINST", x.twin(0, 1, true), 3);
        due.is("4: kind and elder now", x.about(0, 0) * 10 + x.about(0, 1), 41);
        due.is("4: again TWIN", x.twin(0, 1, false), 4);
        due.is("4: 4 is an ELDER no more", x.twin(4, 1, true), 2);
        due.is("4: one CHANCE one, two others", x.told(4) * 10 + x.told(5), 12);
        x.kind(5, 0);
        due.is("4: of a SHUT one", x.twin(5, 1, true), 0);
        due.is("4: three others", x.told(5), 3);
    }

    private static void twinRefused() {
        OpenGrounds x = new OpenGrounds();
        x.kind(0, 2);
        x.kind(1, 2);
        x.kind(2, 0);
        due.is("4: thing -1", x.twin(-1, 0, false), BAD);
        due.is("4: thing 4", x.twin(4, 0, false), BAD);
        due.is("4: elder -1", x.twin(3, -1, false), BAD);
        due.is("4: elder 4", x.twin(3, 4, true), BAD);
        due.is("4: elder NONE", x.twin(3, NONE, true), BAD);
        due.is("4: itself", x.twin(0, 0, true), BAD);
        due.is("4: elder SHUT", x.twin(3, 2, true), BAD);
        due.is("4: elder SURE", x.twin(2, 3, false), BAD);
        x.twin(3, 0, true);
        due.is("4: elder AGAINST", x.twin(2, 3, false), BAD);
        due.is("4: thing is an ELDER", x.twin(0, 1, false), STATE);
        due.is("4: an ELDER, BAD ahead", x.twin(0, 2, false), BAD);
        due.is("4: an ELDER of itself", x.twin(0, 0, false), BAD);
        due.is("4: nothing changes", x.about(0, 0) * 1000 + x.about(2, 0) * 100 + x.about(3, 0) * 10 + x.about(3, 1), 2040);
    }

    private static void abouts() {
        OpenGrounds x = new OpenGrounds();
        x.ground(2, 3, false);
        int[] from = {0, 1, 3, 4, 0, 1, 2};
        int[] to = {1, 2, 4, 5, 3, 4, 5};
        for (int road = 0; road < 7; road++) {
            due.is("5: from " + road, x.about(road, 3), from[road]);
            due.is("5: to " + road, x.about(road, 4), to[road]);
        }
        x.kind(6, 2);
        due.is("5: number of 6", x.about(6, 2), 0);
        x.kind(2, 2);
        due.is("5: number of 2", x.about(2, 2), 0);
        due.is("5: number of 6 now", x.about(6, 2), 1);
        x.twin(4, 2, true);
        due.is("5: kind", x.about(4, 0), 4);
        due.is("5: elder", x.about(4, 1), 2);
        due.is("5: no number", x.about(4, 2), NONE);
        due.is("5: no elder", x.about(2, 1), NONE);
        due.is("5: what -1", x.about(0, -1), BAD);
        due.is("5: what 5", x.about(0, 5), BAD);
        due.is("5: thing -1", x.about(-1, 0), BAD);
        due.is("5: thing 7", x.about(7, 0), BAD);

        x.ground(5, 5, false);
        due.is("5: last right", x.about(19, 3) * 100 + x.about(19, 4), 2324);
        due.is("5: first down", x.about(20, 3) * 100 + x.about(20, 4), 5);
        due.is("5: last down", x.about(39, 3) * 100 + x.about(39, 4), 1924);
        due.is("5: thing 40", x.about(40, 0), BAD);
        x.ground(5, 1, false);
        due.is("5: one column", x.about(3, 3) * 10 + x.about(3, 4), 34);
        x.ground(1, 1, false);
        due.is("5: no road", x.about(0, 3), BAD);
        x.ground(5, 5, true);
        due.is("5: a place, both", x.about(24, 3) * 100 + x.about(24, 4), 2424);
        due.is("5: no 26th place", x.about(25, 3), BAD);
    }

    private static void tolds() {
        OpenGrounds x = new OpenGrounds();
        x.ground(3, 5, true);
        x.kind(0, 2);
        x.kind(1, 2);
        x.kind(2, 2);
        x.twin(14, 2, true);
        x.twin(13, 2, false);
        int[] told = {3, 5, 1, 15, 3, 2};
        for (int what = 0; what < told.length; what++) {
            due.is("6: told " + what, x.told(what), told[what]);
        }
        x.ground(5, 5, false);
        x.kind(0, 2);
        x.twin(39, 0, true);
        due.is("6: forty, the last one AGAINST", x.told(3) * 100 + x.told(4) * 10 + x.told(5), 4011);
        due.is("6: -1", x.told(-1), BAD);
        due.is("6: 6", x.told(6), BAD);
        due.is("6: least", x.told(Integer.MIN_VALUE), BAD);
    }
}
