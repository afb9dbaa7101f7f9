/** Promises 7 to 11 and 25: one setting, and the trace of what was asked. */
public final class SettingTest {
    private static final Due due = new Due("SettingTest");
    private static final int BAD = -1, STATE = -2, NONE = -9;

    public static void main(String[] args) {
        opens();
        traces();
        throughRoads();
        throughPlaces();
        walls();
        wallOfFiveByFive();
        heapsOfRoads();
        heapsOfPlaces();
        refused();
        due.end();
    }

    /** Two CHANCE ones (2, 4), a TWIN of each, one AGAINST each, one SHUT, one SURE. */
    private static OpenGrounds eightPlaces() {
        OpenGrounds x = new OpenGrounds();
        x.ground(2, 4, true);
        x.kind(2, 2);
        x.kind(4, 2);
        x.twin(0, 4, false);
        x.twin(1, 2, false);
        x.twin(3, 4, true);
        x.twin(5, 2, true);
        x.kind(6, 0);
        return x;
    }

    private static void opens() {
        OpenGrounds x = eightPlaces();
        // Of these 7 is SURE, 6 SHUT; 2 has its WAY by bit 0: 1 goes with it, 5 against it;
        // 4 has its WAY by bit 1: 0 goes with it, 3 against it.
        String[] open = {"00010101", "01110001", "10001101", "11101001"};
        for (int setting = 0; setting < 4; setting++) {
            for (int thing = 0; thing < 8; thing++) {
                due.is("7: opens(" + thing + ", " + setting + ")", x.opens(thing, setting), open[setting].charAt(thing) - '0');
            }
        }
        due.is("7: thing -1", x.opens(-1, 0), BAD);
        due.is("7: thing 8", x.opens(8, 0), BAD);
        due.is("7: setting -1", x.opens(0, -1), BAD);
        due.is("7: setting 4", x.opens(0, 4), BAD);
        due.is("7: great", x.opens(Integer.MAX_VALUE, Integer.MIN_VALUE), BAD);
        x.ground(5, 5, false);
        due.is("7: the last road", x.opens(39, 0), 1);
        x.kind(39, 0);
        due.is("7: the last road, SHUT", x.opens(39, 0), 0);
        due.is("7: no CHANCE one, one setting", x.opens(39, 1), BAD);
    }

    private static void traces() {
        OpenGrounds x = eightPlaces();
        long sum = 0;
        int[] things = {6, 7, 2, 0, 3};
        int[] asks = {1, 11, 111, 1111, 11111};
        for (int kind = 0; kind < 5; kind++) {
            for (int setting = 0; setting < 4; setting++) {
                x.opens(things[kind], setting);
                sum += asks[kind];
                due.is("25: after kind " + kind, x.trace(), sum);
            }
        }
        x.opens(8, 0);
        x.opens(0, 4);
        due.is("25: refused calls ask nothing", x.trace(), sum);
        x.through(0, 0);
        x.heap(0, 0);
        x.heaps(0, 0);
        x.count(0, 1);
        x.chance(0, 1, 2);
        x.pivot(0, 0);
        due.is("25: opens() alone asks", x.trace(), sum);
        x.ground(2, 2, false);
        x.wall(0, 0);
        x.walls(0, 0);
        x.opens(0, 0);
        due.is("25: it stays with a new GROUND", x.trace(), sum + 11);
    }

    private static void throughRoads() {
        OpenGrounds x = new OpenGrounds();
        x.ground(2, 3, false);
        // right: 0 (0-1), 1 (1-2), 2 (3-4), 3 (4-5); down: 4 (0-3), 5 (1-4), 6 (2-5)
        x.kind(1, 2);
        x.kind(2, 2);
        x.kind(3, 2);
        x.kind(4, 0);
        x.kind(5, 2);
        x.kind(6, 0);
        due.is("8: nothing", x.through(0, 0), 0);
        due.is("8: above alone", x.through(1, 0), 1);
        due.is("8: over the middle", x.through(4 | 8, 0), 1);
        due.is("8: the middle, no end", x.through(8, 0), 0);
        due.is("8: the middle, no way on", x.through(2 | 8, 0), 0);
        due.is("8: backwards", x.through(2 | 4, 0), 1);
        due.is("8: down by the middle", x.through(8, 1), 1);
        due.is("8: not down", x.through(1 | 2 | 4, 1), 0);
        x.ground(1, 4, false);
        for (int thing = 0; thing < 3; thing++) {
            x.kind(thing, 0);
        }
        due.is("8: one row, down", x.through(0, 1), 1);
        due.is("8: one row, right", x.through(0, 0), 0);
        x.ground(1, 1, false);
        due.is("8: one place", x.through(0, 0) + x.through(0, 1), 2);
    }

    private static void throughPlaces() {
        OpenGrounds x = new OpenGrounds();
        x.ground(5, 5, true);
        // a way that winds: rows 0, 2, 4 open, 1 open at the right end, 3 at the left end
        for (int c = 0; c < 5; c++) {
            x.kind(5 + c, c == 4 ? 1 : 0);
            x.kind(15 + c, c == 0 ? 1 : 0);
        }
        due.is("8: winding down", x.through(0, 1), 1);
        due.is("8: right", x.through(0, 0), 1);
        x.kind(12, 2);
        due.is("8: cut", x.through(0, 1), 0);
        due.is("8: not cut", x.through(1, 1), 1);
        due.is("8: right all the same", x.through(0, 0), 1);
        x.ground(1, 1, true);
        due.is("8: one OPEN PLACE", x.through(0, 0), 1);
        x.kind(0, 0);
        due.is("8: one SHUT PLACE", x.through(0, 0) + x.through(0, 1), 0);
        // the end of a row does not join the next one's begin
        x.ground(2, 3, true);
        x.kind(0, 0);
        x.kind(1, 0);
        x.kind(4, 0);
        x.kind(5, 0);
        due.is("8: 2 and 3 are no neighbours", x.through(0, 1), 0);
        due.is("8: nor to the right", x.through(0, 0), 0);
    }

    private static void walls() {
        OpenGrounds x = new OpenGrounds();
        x.ground(2, 3, false);
        x.kind(0, 2);
        x.kind(3, 2);
        x.kind(5, 2);
        due.is("9: all shut", x.wall(0, 0), 1);
        due.is("9: the middle open", x.wall(4, 0), 0);
        due.is("9: above open", x.wall(1, 0), 0);
        due.is("9: below open", x.wall(2, 0), 0);
        x.kind(4, 0);
        x.kind(6, 0);
        due.is("9: from side to side", x.wall(0, 1), 1);
        due.is("9: not by the middle", x.wall(4, 1), 0);
        x.kind(4, 1);
        due.is("9: not by the first column", x.wall(0, 1), 0);
        x.ground(1, 1, false);
        due.is("9: one place has none", x.wall(0, 0) + x.wall(0, 1), 0);
        x.ground(3, 1, false);
        x.kind(1, 0);
        due.is("9: one column has none", x.wall(0, 0), 0);
        due.is("9: but a wall 1", x.wall(0, 1), 1);
        x.ground(3, 3, true);
        due.is("9: OF PLACES", x.wall(0, 0), STATE);
        due.is("9: BAD is ahead: setting", x.wall(1, 0), BAD);
        due.is("9: BAD is ahead: way", x.wall(0, 2), BAD);
        x.ground(3, 3, false);
        due.is("9: setting -1", x.wall(-1, 0), BAD);
        due.is("9: setting 1 of none", x.wall(1, 0), BAD);
        due.is("9: way -1", x.wall(0, -1), BAD);
        due.is("9: way 2", x.wall(0, 2), BAD);
    }

    /** The first and the last column's roads down are no way for a wall, and it may wind. */
    private static void wallOfFiveByFive() {
        OpenGrounds x = new OpenGrounds();
        x.ground(5, 5, false);
        for (int thing = 20; thing < 40; thing++) {
            x.kind(thing, 0);
        }
        due.is("9: rows stay whole", x.wall(0, 0), 0);
        due.is("9: side to side", x.wall(0, 1), 1);
        // a stair: the right road of (r, 4 - 1 - r), rows 0 .. 3, and (4, 0)
        x.kind(3, 0);
        x.kind(6, 0);
        x.kind(9, 0);
        x.kind(12, 0);
        due.is("9: four of five", x.wall(0, 0), 0);
        x.kind(16, 2);
        due.is("9: all five", x.wall(0, 0), 1);
        due.is("9: or not", x.wall(1, 0), 0);
        x.kind(20 + 5 + 2, 1);
        due.is("9: a stair broken", x.wall(0, 0), 0);
    }

    private static void heapsOfRoads() {
        OpenGrounds x = new OpenGrounds();
        x.ground(3, 3, false);
        for (int thing = 0; thing < 12; thing++) {
            x.kind(thing, 0);
        }
        due.is("11: all apart", x.heaps(0, 0) * 10 + x.heaps(0, 1), 91);
        x.kind(5, 2); // 7-8
        x.kind(11, 2); // 5-8
        due.is("10: 8 with 7", x.heap(1, 8), 7);
        due.is("10: 8 with 5", x.heap(2, 8), 5);
        due.is("10: 7 with 5", x.heap(3, 7), 5);
        due.is("10: 8 alone", x.heap(0, 8), 8);
        due.is("11: seven, of three", x.heaps(3, 0) * 10 + x.heaps(3, 1), 73);
        due.is("11: eight, of two", x.heaps(2, 0) * 10 + x.heaps(2, 1), 82);
    }

    private static void heapsOfPlaces() {
        OpenGrounds x = new OpenGrounds();
        x.ground(2, 2, true);
        for (int thing = 0; thing < 4; thing++) {
            x.kind(thing, 2);
        }
        due.is("11: none", x.heaps(0, 0), 0);
        due.is("11: greatest of none", x.heaps(0, 1), 0);
        due.is("10: not OPEN", x.heap(0, 0), NONE);
        due.is("11: over the corner they do not hang together", x.heaps(6, 0) * 10 + x.heaps(6, 1), 21);
        due.is("11: the first alone", x.heaps(1, 0) * 10 + x.heaps(1, 1), 11);
        due.is("11: the last alone", x.heaps(8, 0) * 10 + x.heaps(8, 1), 11);
        due.is("10: 2 alone", x.heap(6, 2), 2);
        due.is("10: 3 with 1", x.heap(10, 3), 1);
        due.is("10: 1 with 2 by 3", x.heap(14, 2), 1);
        due.is("10: 0 is not OPEN", x.heap(14, 0), NONE);
        due.is("11: one of three", x.heaps(14, 0) * 10 + x.heaps(14, 1), 13);
        due.is("11: one of four", x.heaps(15, 0) * 10 + x.heaps(15, 1), 14);
    }

    private static void refused() {
        OpenGrounds x = new OpenGrounds();
        x.kind(0, 2);
        int[] wrong = {-1, 2, 3, Integer.MIN_VALUE, Integer.MAX_VALUE};
        for (int number : wrong) {
            due.is("8: setting " + number, x.through(number, 0), BAD);
            due.is("8: way " + number, x.through(0, number), BAD);
            due.is("10: setting " + number, x.heap(number, 0), BAD);
            due.is("11: setting " + number, x.heaps(number, 0), BAD);
            due.is("11: what " + number, x.heaps(0, number), BAD);
        }
        due.is("10: place -1", x.heap(0, -1), BAD);
        due.is("10: place 4", x.heap(0, 4), BAD);
        due.is("10: place 3", x.heap(0, 3), 0);
        due.is("8: the last setting", x.through(1, 1), 1);
    }
}
