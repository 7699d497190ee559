import java.util.Random;

/** Random runs of calls on new objects: each answer, and what can be seen at the end, against the model's. */
public final class ModelTest {
    private static final Check C = new Check("ModelTest");
    private static final int RUNS = 6000;
    /** What later calls of an object answer is free. */
    private static final int CALLS = 512;
    /** The calls that one step may take: a rule's text is fed four bytes at a time. */
    private static final int STEP = 24;

    private final Random random;
    private final IceRoad road = new IceRoad();
    private final Model model = new Model();
    private final String name;
    private final long[] seen;
    private int calls = 0;

    private ModelTest(int run, long[] seen) {
        this.random = new Random(run * 7919L + 5);
        this.name = "run " + run + ": ";
        this.seen = seen;
    }

    public static void main(String[] args) {
        long[] seen = new long[5];
        for (int run = 0; run < RUNS; run++) {
            new ModelTest(run, seen).play();
        }
        // a run that never gets this far would compare nothing of worth
        for (int state = 0; state < seen.length; state++) {
            C.due("loads of state " + state + " were seen", seen[state] > 100 ? 1 : 0, 1);
        }
        C.end();
    }

    private void play() {
        layRoad();
        for (int i = 0; i < CALLS && calls + STEP + callsToCompareAll() <= CALLS; i++) {
            call();
        }
        compareAll();
        C.due(name + "calls", calls <= CALLS ? 1 : 0, 1);
        for (int state = 0; state < seen.length; state++) {
            seen[state] += model.count(5 + state);
        }
    }

    private int callsToCompareAll() {
        return 10 * model.count(1) + 7 * model.count(2) + 2 * 48 + 11 + 7;
    }

    private void layRoad() {
        int more = random.nextInt(10);
        for (int i = 0; i < more; i++) {
            int depth = 1 + random.nextInt(20);
            int length = 1 + random.nextInt(4);
            boolean portage = random.nextInt(6) == 0;
            due("cell", road.cell(depth, length, portage), model.cell(depth, length, portage));
        }
        int about = random.nextInt(4) * 400;
        for (int i = 0; i < more + 2; i++) {
            int v = about + random.nextInt(900);
            due("thick", road.thick(i, v), model.thick(i, v));
        }
    }

    private void due(String call, int got, int want) {
        calls++;
        C.due(name + call, got, want);
    }

    /** Mostly a number from a to b, at times one just beyond or far away. */
    private int some(int a, int b) {
        int r = random.nextInt(60);
        if (r == 0) return a - 1;
        if (r == 1) return b + 1;
        if (r == 2) return random.nextInt();
        if (r == 3) return random.nextBoolean() ? Integer.MIN_VALUE : Integer.MAX_VALUE;
        return a + random.nextInt(b - a + 1);
    }

    private int someCell() {
        return some(0, model.count(1) - 1);
    }

    private int someLoad() {
        return some(0, Math.max(0, model.count(2) - 1));
    }

    private void call() {
        int sort = random.nextInt(100);
        if (sort < 28) {
            callRoad();
        } else if (sort < 70) {
            callLoads();
        } else if (sort < 88) {
            callRules();
        } else {
            callRows();
        }
    }

    private void callRoad() {
        int c = someCell();
        int v = some(0, 3000);
        int w = some(1, 99);
        int what = some(0, 9);
        switch (random.nextInt(13)) {
            case 0: due("cell", road.cell(some2(v), what, w > 50), model.cell(some2(v), what, w > 50)); break;
            case 1: case 2: due("look " + c + " " + what, road.look(c, what), model.look(c, what)); break;
            case 3: due("thick " + c + " " + v, road.thick(c, v), model.thick(c, v)); break;
            case 4: due("read " + c, road.read(c), model.read(c)); break;
            case 5: due("bears " + c + " " + w, road.bears(c, w), model.bears(c, w)); break;
            case 6: callWeather(); break;
            case 7: due("cold", road.cold(), model.cold()); break;
            case 8: due("heat " + v, road.heat(v), model.heat(v)); break;
            case 9: due("sweep " + c, road.sweep(c), model.sweep(c)); break;
            case 10: due("flood " + c, road.flood(c), model.flood(c)); break;
            case 11: due("bypass " + c, road.bypass(c), model.bypass(c)); break;
            default: due("snow " + w, road.snow(w), model.snow(w));
        }
    }

    private static int some2(int v) {
        return v % 70;
    }

    private void callWeather() {
        int hour = some(0, 47);
        int v = random.nextInt(4) == 0 ? -9999 : some(-600, 300);
        due("weather " + hour + " " + v, road.weather(hour, v), model.weather(hour, v));
    }

    private void callLoads() {
        int l = someLoad();
        int c = someCell();
        switch (random.nextInt(12)) {
            case 0: case 1: case 2: {
                int weight = random.nextBoolean() ? some(1, 99) : some(1, 20);
                int rank = some(0, 9);
                int way = some(0, 1);
                due("load", road.load(weight, rank, way), model.load(weight, rank, way));
                break;
            }
            case 3: {
                int what = some(0, 6);
                due("of " + l + " " + what, road.of(l, what), model.of(l, what));
                break;
            }
            case 4: due("may " + l + " " + c, road.may(l, c), model.may(l, c)); break;
            case 5: due("why " + l + " " + c, road.why(l, c), model.why(l, c)); break;
            case 6: if (random.nextInt(4) == 0) due("turn " + l, road.turn(l), model.turn(l)); break;
            case 7: {
                int w = random.nextBoolean() ? some(1, 99) : some(1, 5);
                int h = some(-600, 300) / (1 + random.nextInt(20));
                due("thaw " + w + " " + h, road.thaw(w, h), model.thaw(w, h));
                break;
            }
            default: {
                int n = random.nextInt(30) == 0 ? some(1, 200) : some(1, 4);
                due("run " + n, road.run(n), model.run(n));
            }
        }
    }

    private void callRules() {
        switch (random.nextInt(6)) {
            case 0: {
                int bytes = random.nextInt();
                int n = some(0, 4);
                due("feed", road.feed(bytes, n), model.feed(bytes, n));
                break;
            }
            case 1: due("wipe", road.wipe(), model.wipe()); break;
            case 2: {
                due("wipe", road.wipe(), model.wipe());
                String text = ruleText();
                for (int at = 0; at < text.length(); at += 4) {
                    feed(text.substring(at, Math.min(at + 4, text.length())));
                }
                int from = some(0, 100);
                int to = random.nextBoolean() ? some(0, 400) : some(99900, 100000);
                due("rule '" + text + "'", road.rule(from, to), model.rule(from, to));
                break;
            }
            case 3: case 4: {
                int l = someLoad();
                int c = someCell();
                int key = some(0, 2);
                due("said", road.said(l, c, key), model.said(l, c, key));
                break;
            }
            default: {
                int what = some(0, 10);
                due("count " + what, road.count(what), model.count(what));
            }
        }
    }

    private void feed(String bytes) {
        int number = 0;
        for (int i = 0; i < bytes.length(); i++) {
            number = number << 8 | bytes.charAt(i);
        }
        due("feed '" + bytes + "'", road.feed(number, bytes.length()), model.feed(number, bytes.length()));
    }

    /** A text of small numbers as often as one with odd ones, so that rules hold as often as not. */
    private String ruleText() {
        if (random.nextInt(3) == 0) {
            return RulesTest.randomText(random);
        }
        String[] keys = {"thick " + random.nextInt(900), "gap " + random.nextInt(6), "stop " + random.nextInt(2)};
        String text = keys[random.nextInt(3)];
        String[] tests = {"weight>" + random.nextInt(99), "rank<" + random.nextInt(10), "cell=" + random.nextInt(10),
            "heat<-" + random.nextInt(300), "snow>" + random.nextInt(100), "heat>-" + random.nextInt(300)};
        String joint = random.nextBoolean() ? " and " : " or ";
        int n = random.nextInt(4);
        for (int i = 0; i < n; i++) {
            text += (i == 0 ? " if " : joint) + tests[random.nextInt(tests.length)];
        }
        return text;
    }

    private void callRows() {
        int i = some(0, 47);
        switch (random.nextInt(8)) {
            case 0: if (random.nextInt(4) == 0) due("tear", road.tear(), model.tear()); break;
            case 1: due("row " + i, road.row(i), model.row(i)); break;
            case 2: {
                int j = some(0, 47);
                int n = some(0, 12);
                due("copy", road.copy(i, j, n), model.copy(i, j, n));
                break;
            }
            case 3: {
                int by = some(-8, -2);
                due("status " + by, road.status(by), model.status(by));
                break;
            }
            default: {
                int v = random.nextInt(3) == 0 ? some(-9999, 9999) : some(-600, 300);
                due("tell", road.tell(i, v), model.tell(i, v));
            }
        }
    }

    private void compareAll() {
        for (int c = 0; c < model.count(1); c++) {
            for (int what = 0; what < 10; what++) {
                due("at the end look " + c + " " + what, road.look(c, what), model.look(c, what));
            }
        }
        for (int l = 0; l < model.count(2); l++) {
            for (int what = 0; what < 7; what++) {
                due("at the end of " + l + " " + what, road.of(l, what), model.of(l, what));
            }
        }
        for (int i = 0; i < 48; i++) {
            due("at the end row " + i, road.row(i), model.row(i));
            due("at the end heat " + i, road.heat(i), model.heat(i));
        }
        for (int what = 0; what <= 10; what++) {
            due("at the end count " + what, road.count(what), model.count(what));
        }
        for (int by = -8; by <= -2; by++) {
            due("at the end status " + by, road.status(by), model.status(by));
        }
    }
}
