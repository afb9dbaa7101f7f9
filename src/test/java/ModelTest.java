import java.util.Arrays;
import java.util.Random;

/**
 * Runs made by a generator with a fixed seed, compared with the model call by call. Some go on beyond
 * the 512 calls that the document promises: the class has no end of its own.
 */
public final class ModelTest {
    private static final Due due = new Due("ModelTest");
    private static final int RUNS = 400;
    private static final int[] EXTREME = {-1, Integer.MIN_VALUE, Integer.MAX_VALUE, -9, 41, 26, 40, 4096, 32, 64};
    private static Random random;
    private static OpenGrounds real;
    private static Model model;
    private static int run;
    private static int mostChances;

    public static void main(String[] args) {
        for (run = 0; run < RUNS; run++) {
            random = new Random(run);
            real = new OpenGrounds();
            model = new Model();
            mostChances = run % 40 == 0 ? 12 : 1 + random.nextInt(6);
            for (int i = 0; i < 512; i++) {
                oneCall();
            }
        }
        everyAnswerOfManyGrounds();
        due.end();
    }

    private static int upTo(int end) {
        return end <= 0 ? 0 : random.nextInt(end);
    }

    /** Mostly a number below the end, now and then the end itself, or one far away. */
    private static int near(int end) {
        int dice = random.nextInt(40);
        if (dice == 0) {
            return EXTREME[random.nextInt(EXTREME.length)];
        }
        return dice == 1 ? end : dice == 2 ? -1 : upTo(end);
    }

    private static void ask(String name, int... a) {
        due.is("run " + run + ": " + name + Arrays.toString(a), answer(name, a), model.call(name, a));
    }

    private static void oneCall() {
        int things = real.told(3), places = real.told(0) * real.told(1), m = real.told(4);
        int settings = 1 << m;
        int dice = random.nextInt(100);
        if (dice < 2) {
            ask("ground", 1 + near(5), 1 + near(5), random.nextInt(2));
        } else if (dice < 20) {
            int kind = m >= mostChances ? random.nextInt(2) : near(3);
            ask("kind", near(things), kind);
        } else if (dice < 28) {
            ask("twin", near(things), elder(things), random.nextInt(2));
        } else if (dice < 34) {
            ask("about", near(things), near(5));
            ask("told", near(6));
        } else if (dice < 52) {
            ask("opens", near(things), near(settings));
            ask("through", near(settings), near(2));
            ask("wall", near(settings), near(2));
            ask("heap", near(settings), near(places));
            ask("heaps", near(settings), near(2));
        } else if (dice < 62) {
            countCall(places, m);
        } else {
            sheetCall();
        }
        ask("trace");
        ask("status");
    }

    private static int elder(int things) {
        for (int tries = 0; tries < 6; tries++) {
            int thing = near(things);
            if (real.about(thing, 0) == 2) {
                return thing;
            }
        }
        return near(things);
    }

    private static void countCall(int places, int m) {
        switch (random.nextInt(8)) {
            case 0:
                ask("count", near(4), near(m + 1));
                break;
            case 1:
                ask("walls", near(2), near(m + 1));
                break;
            case 2:
                ask("joined", near(places), near(places), near(m + 1));
                break;
            case 3:
                ask("sized", near(places), near(random.nextBoolean() ? 26 : 5), near(m + 1));
                break;
            case 4:
                ask("heapSum", near(m + 1));
                break;
            case 5:
                ask("chance", near(4), near(5), near(10));
                break;
            case 6:
                ask("pivot", near(4), near(m));
                break;
            default:
                ask("first", near(4), near(m + 1));
                break;
        }
    }

    private static void sheetCall() {
        int sort = random.nextInt(8) == 0 ? near(2) : 0;
        int dice = random.nextInt(40);
        if (dice < 2) {
            ask("sheet", near(3), sort, near(5));
        } else if (dice < 6) {
            ask("row", near(3), near(4), random.nextBoolean() ? near(41) : near(6));
        } else if (dice < 28) {
            int kind = random.nextInt(8) == 0 ? near(300) : random.nextInt(5) == 0 ? 2 : random.nextInt(2);
            ask("put", near(3), sort, near(3), near(8), kind);
        } else if (dice < 36) {
            ask("copy", near(3), near(3), near(4), near(3), near(3), near(4), near(4));
        } else {
            ask("read", near(3), near(3));
        }
    }

    /** Grounds of every size with all kinds mixed: all settings, all counts. */
    private static void everyAnswerOfManyGrounds() {
        random = new Random(77);
        for (run = 1000; run < 1250; run++) {
            real = new OpenGrounds();
            model = new Model();
            ask("ground", 1 + run % 5, 1 + run / 5 % 5, run % 2);
            int things = real.told(3);
            mostChances = 5;
            for (int thing = 0; thing < things; thing++) {
                ask("kind", thing, real.told(4) < mostChances && random.nextInt(4) == 0 ? 2 : random.nextInt(5) == 0 ? 0 : 1);
            }
            for (int i = 0; i < 6; i++) {
                ask("twin", upTo(things), elder(things), random.nextInt(2));
            }
            allSettings(things);
            allCounts();
        }
    }

    private static void allSettings(int things) {
        for (int setting = 0; setting < 1 << real.told(4); setting++) {
            for (int thing = 0; thing < things; thing++) {
                ask("opens", thing, setting);
            }
            for (int place = 0; place < real.told(0) * real.told(1); place++) {
                ask("heap", setting, place);
            }
            for (int two = 0; two < 2; two++) {
                ask("through", setting, two);
                ask("wall", setting, two);
                ask("heaps", setting, two);
            }
        }
        ask("trace");
    }

    private static void allCounts() {
        int m = real.told(4), last = real.told(0) * real.told(1) - 1;
        for (int k = 0; k <= m; k++) {
            for (int way = 0; way < 4; way++) {
                ask("count", way, k);
                ask("walls", way, k);
                ask("first", way, k);
                ask("pivot", way, k);
                ask("chance", way, k, 7);
            }
            ask("joined", 0, last, k);
            ask("joined", upTo(last), upTo(last), k);
            for (int n = 0; n <= last + 1; n++) {
                ask("sized", last / 2, n, k);
            }
            ask("heapSum", k);
        }
    }

    private static long answer(String name, int[] a) {
        switch (name) {
            case "ground":
                return real.ground(a[0], a[1], a[2] == 1);
            case "kind":
                return real.kind(a[0], a[1]);
            case "twin":
                return real.twin(a[0], a[1], a[2] == 1);
            case "about":
                return real.about(a[0], a[1]);
            case "told":
                return real.told(a[0]);
            case "opens":
                return real.opens(a[0], a[1]);
            case "through":
                return real.through(a[0], a[1]);
            case "wall":
                return real.wall(a[0], a[1]);
            case "heap":
                return real.heap(a[0], a[1]);
            case "heaps":
                return real.heaps(a[0], a[1]);
            case "trace":
                return real.trace();
            case "status":
                return real.status();
            default:
                return a.length < 4 && !name.equals("sheet") && !name.equals("row") && !name.equals("read")
                        ? countAnswer(name, a) : sheetAnswer(name, a);
        }
    }

    private static long countAnswer(String name, int[] a) {
        switch (name) {
            case "count":
                return real.count(a[0], a[1]);
            case "walls":
                return real.walls(a[0], a[1]);
            case "joined":
                return real.joined(a[0], a[1], a[2]);
            case "sized":
                return real.sized(a[0], a[1], a[2]);
            case "heapSum":
                return real.heapSum(a[0]);
            case "chance":
                return real.chance(a[0], a[1], a[2]);
            case "pivot":
                return real.pivot(a[0], a[1]);
            case "first":
                return real.first(a[0], a[1]);
            default:
                throw new IllegalStateException(name);
        }
    }

    private static long sheetAnswer(String name, int[] a) {
        switch (name) {
            case "sheet":
                return real.sheet(a[0], a[1], a[2]);
            case "row":
                return real.row(a[0], a[1], a[2]);
            case "put":
                return real.put(a[0], a[1], a[2], a[3], a[4]);
            case "copy":
                return real.copy(a[0], a[1], a[2], a[3], a[4], a[5], a[6]);
            case "read":
                return real.read(a[0], a[1]);
            default:
                throw new IllegalStateException(name);
        }
    }
}
