import java.util.function.Consumer;

/** Promises 14 to 20: the last values that are taken, the first that are refused, and what a refusal leaves. */
public final class LoadsEdgesTest {
    private static final Check C = new Check("LoadsEdgesTest");
    private static final Scenes S = new Scenes(C);
    private static final int MIN = Integer.MIN_VALUE;
    private static final int MAX = Integer.MAX_VALUE;

    public static void main(String[] args) {
        loadWeight();
        loadRank();
        loadWay();
        loadFull();
        ofBounds();
        ofStates();
        mayAndWhyBounds();
        turn();
        turnOfTheLast();
        runBounds();
        runCounts();
        thawBounds();
        thawHours();
        thawLooksOnly();
        thawOfCracked();
        C.end();
    }

    /** "WEIGHT (1 .. 99)"; "NO: WEIGHT". */
    private static void loadWeight() {
        for (int weight : new int[] {1, 99}) {
            IceRoad x = new IceRoad();
            C.due("load of weight " + weight, x.load(weight, 5, 0), 0);
            C.due("its weight", x.of(0, 0), weight);
        }
        for (int weight : new int[] {0, 100, -1, MIN, MAX}) {
            S.refused("load(" + weight + ", 5, 0)", Scenes::busy, x -> x.load(weight, 5, 0), IceRoad.NO);
        }
    }

    /** "RANK (0 .. 9)"; "NO: .. RANK". */
    private static void loadRank() {
        for (int rank : new int[] {0, 9}) {
            IceRoad x = new IceRoad();
            C.due("load of rank " + rank, x.load(5, rank, 1), 0);
            C.due("its rank", x.of(0, 1), rank);
        }
        for (int rank : new int[] {-1, 10, MIN, MAX}) {
            S.refused("load(5, " + rank + ", 0)", Scenes::busy, x -> x.load(5, rank, 0), IceRoad.NO);
        }
    }

    /** "a WAY: 0 up .., 1 down"; "NO: .. WAY". */
    private static void loadWay() {
        for (int way : new int[] {0, 1}) {
            IceRoad x = new IceRoad();
            C.due("load of way " + way, x.load(5, 5, way), 0);
            C.due("its way", x.of(0, 2), way);
        }
        for (int way : new int[] {-1, 2, MIN, MAX}) {
            S.refused("load(5, 5, " + way + ")", Scenes::busy, x -> x.load(5, 5, way), IceRoad.NO);
        }
    }

    /** "LOADS 0 .. 23 as they come"; "FULL"; and NO ahead of it. */
    private static void loadFull() {
        IceRoad x = new IceRoad();
        for (int l = 0; l < 24; l++) {
            C.due("load " + l, x.load(99 - l, l % 10, l % 2), l);
        }
        C.due("the last one's weight", x.of(23, 0), 76);
        C.due("the last one's rank", x.of(23, 1), 3);
        C.due("the last one's way", x.of(23, 2), 1);
        S.refused("a 25th", Scenes::allLoads, y -> y.load(1, 9, 1), IceRoad.FULL);
        S.refused("a 25th in the busy scene", Scenes::busyAllLoads, y -> y.load(1, 9, 1), IceRoad.FULL);
        S.refused("a 25th of weight 0", Scenes::allLoads, y -> y.load(0, 9, 1), IceRoad.NO);
        S.refused("a 25th of rank 10", Scenes::allLoads, y -> y.load(1, 10, 1), IceRoad.NO);
        S.refused("a 25th of way 2", Scenes::allLoads, y -> y.load(1, 9, 2), IceRoad.NO);
        for (int l = 0; l < 24; l++) {
            x.turn(l);
        }
        C.due("loads turned back leave no room", x.load(1, 9, 1), IceRoad.FULL);
    }

    /** "BEYOND, NO" of of, in this order, and what = 0 .. 6. */
    private static void ofBounds() {
        S.changesNothing("of(0, 0)", Scenes::busy, x -> x.of(0, 0), 10);
        S.changesNothing("of(4, 0)", Scenes::busy, x -> x.of(4, 0), 10);
        S.changesNothing("of(0, 6)", Scenes::busy, x -> x.of(0, 6), IceRoad.NONE);
        for (int load : new int[] {-1, 5, 24, MIN, MAX}) {
            for (int what : new int[] {0, 6, -1, 7}) {
                S.refused("of(" + load + ", " + what + ")", Scenes::busy, x -> x.of(load, what), IceRoad.BEYOND);
            }
        }
        for (int what : new int[] {-1, 7, MIN, MAX}) {
            S.refused("of(0, " + what + ")", Scenes::busy, x -> x.of(0, what), IceRoad.NO);
            S.refused("of(4, " + what + ")", Scenes::busy, x -> x.of(4, what), IceRoad.NO);
        }
        S.refused("of(0, 0) without loads", Scenes::bare, x -> x.of(0, 0), IceRoad.BEYOND);
        S.refused("of(24, 0) of all", Scenes::allLoads, x -> x.of(24, 0), IceRoad.BEYOND);
    }

    /** "its CELL (4; NONE: not on one), hours there (5; NONE), the hour in which .. (6; NONE)", of each STATE. */
    private static void ofStates() {
        int none = IceRoad.NONE;
        int[][] due = {{0, none, none, none}, {1, 0, 0, none}, {2, none, none, 2}, {3, none, none, 0},
            {4, none, none, none}};
        for (int state = 0; state <= 4; state++) {
            for (int what = 3; what <= 6; what++) {
                int asked = what;
                S.changesNothing("of state " + state + " what " + what, Scenes.loadOf(state), x -> x.of(0, asked),
                        due[state][what - 3]);
            }
        }
    }

    /** "BEYOND" of may and why: a LOAD or a CELL that isn't there. */
    private static void mayAndWhyBounds() {
        S.changesNothing("may(0, 0)", Scenes::busy, x -> x.may(0, 0), 0);
        S.changesNothing("why(0, 0)", Scenes::busy, x -> x.why(0, 0), 1);
        S.changesNothing("may(4, 4)", Scenes::busy, x -> x.may(4, 4), 1);
        S.changesNothing("why(4, 4)", Scenes::busy, x -> x.why(4, 4), 0);
        for (int beyond : new int[] {-1, 5, MIN, MAX}) {
            S.refused("may(" + beyond + ", 0)", Scenes::busy, x -> x.may(beyond, 0), IceRoad.BEYOND);
            S.refused("may(0, " + beyond + ")", Scenes::busy, x -> x.may(0, beyond), IceRoad.BEYOND);
            S.refused("may of both, " + beyond, Scenes::busy, x -> x.may(beyond, beyond), IceRoad.BEYOND);
            S.refused("why(" + beyond + ", 0)", Scenes::busy, x -> x.why(beyond, 0), IceRoad.BEYOND);
            S.refused("why(0, " + beyond + ")", Scenes::busy, x -> x.why(0, beyond), IceRoad.BEYOND);
            S.refused("why of both, " + beyond, Scenes::busy, x -> x.why(beyond, beyond), IceRoad.BEYOND);
        }
        S.refused("may without loads", Scenes::bare, x -> x.may(0, 0), IceRoad.BEYOND);
        S.refused("why without loads", Scenes::bare, x -> x.why(0, 0), IceRoad.BEYOND);
        for (int state = 0; state <= 4; state++) {
            S.changesNothing("may of state " + state, Scenes.loadOf(state), x -> x.may(0, 1), 1);
        }
    }

    /** "BEYOND, NO: it doesn't WAIT" of turn. */
    private static void turn() {
        for (int load : new int[] {-1, 5, MIN, MAX}) {
            S.refused("turn(" + load + ")", Scenes::busy, x -> x.turn(load), IceRoad.BEYOND);
        }
        S.refused("turn without loads", Scenes::bare, x -> x.turn(0), IceRoad.BEYOND);
        for (int state = 1; state <= 4; state++) {
            S.refused("turn of state " + state, Scenes.loadOf(state), x -> x.turn(0), IceRoad.NO);
        }
        for (int load = 1; load <= 4; load++) {
            int asked = load;
            S.refused("turn(" + load + ")", Scenes::busy, x -> x.turn(asked), IceRoad.NO);
        }
    }

    /** "how many WAIT still": none behind the last one. */
    private static void turnOfTheLast() {
        IceRoad x = new IceRoad();
        for (int l = 0; l < 24; l++) {
            x.load(1, 0, 0);
        }
        for (int l = 23; l >= 0; l--) {
            C.due("turn(" + l + ")", x.turn(l), l);
            C.due("its state", x.of(l, 3), 4);
        }
        C.due("none waits", x.count(5), 0);
        C.due("all are turned back", x.count(9), 24);
        C.due("none goes", x.run(50) + x.count(6), 0);
    }

    /** "n HOURS (1 .. 200)"; "BELOW, NO". */
    private static void runBounds() {
        IceRoad x = new IceRoad();
        C.due("run(1)", x.run(1), 0);
        C.due("one hour", x.count(0), 1);
        C.due("run(200)", x.run(200), 0);
        C.due("200 more", x.count(0), 201);
        for (int n : new int[] {-1, -200, MIN}) {
            S.refused("run(" + n + ")", Scenes::busy, y -> y.run(n), IceRoad.BELOW);
        }
        for (int n : new int[] {0, 201, MAX}) {
            S.refused("run(" + n + ")", Scenes::busy, y -> y.run(n), IceRoad.NO);
        }
    }

    /** "how many LOADS were DELIVERED": by this call alone, and not those that broke in. */
    private static void runCounts() {
        IceRoad x = new IceRoad();
        x.weather(0, 0);
        x.thick(0, 3000);
        x.thick(1, 3000);
        for (int l = 0; l < 24; l++) {
            x.load(99, 9, 0);
        }
        C.due("two hours", x.run(2), 0);
        C.due("the third", x.run(1), 1);
        C.due("five more", x.run(5), 5);
        C.due("one on each cell", x.look(0, 9) + x.look(1, 9), 2);
        C.due("all others", x.run(200), 18);
        C.due("tons", x.count(10), 24 * 99);
        C.due("none is left", x.run(200), 0);
        IceRoad y = new IceRoad();
        y.weather(0, 0);
        y.load(1, 0, 0);
        C.due("one broke in", y.run(9), 0);
        C.due("broken in", y.count(8), 1);
        C.due("no tons", y.count(10), 0);
    }

    /** "a HEAT (-600 .. 300)", a WEIGHT (1 .. 99); "NO". */
    private static void thawBounds() {
        Consumer<IceRoad> solid = x -> {
            x.thick(0, 3000);
            x.thick(1, 3000);
        };
        // 3000 is less by 31 an hour: behind the 93rd 117 is left, behind the 94th 86, which bears nothing
        S.changesNothing("thaw(1, 300)", solid, x -> x.thaw(1, 300), 93);
        S.changesNothing("thaw(1, -600)", solid, x -> x.thaw(1, -600), 500);
        S.changesNothing("thaw(99, -600)", solid, x -> x.thaw(99, -600), 500);
        // 995 bears 99: 64 hours leave 1016, the 65th 985
        S.changesNothing("thaw(99, 300)", solid, x -> x.thaw(99, 300), 64);
        for (int weight : new int[] {0, 100, -1, MIN, MAX}) {
            S.refused("thaw(" + weight + ", 0)", Scenes::busy, x -> x.thaw(weight, 0), IceRoad.NO);
        }
        for (int heat : new int[] {-601, 301, -9999, MIN, MAX}) {
            S.refused("thaw(1, " + heat + ")", Scenes::busy, x -> x.thaw(1, heat), IceRoad.NO);
            S.refused("thaw of what isn't borne, " + heat, Scenes::bare, x -> x.thaw(99, heat), IceRoad.NO);
        }
    }

    /** "how many hours go by ahead of the first one behind which one doesn't bear it (500 at most ..)". */
    private static void thawHours() {
        // at heat 1 a cell is less by 1 an hour; 100 bears 1 and 99 doesn't
        int[] thicknesses = {0, 99, 100, 101, 102, 598, 599, 600, 601};
        int[] hours = {0, 0, 0, 1, 2, 498, 499, 500, 500};
        for (int i = 0; i < thicknesses.length; i++) {
            int thickness = thicknesses[i];
            for (int weak = 0; weak < 2; weak++) {
                int cell = weak;
                S.changesNothing("thaw of " + thickness + " in cell " + weak, x -> {
                    x.thick(1 - cell, 3000);
                    x.thick(cell, thickness);
                }, x -> x.thaw(1, 1), hours[i]);
            }
        }
        IceRoad x = new IceRoad();
        x.thick(0, 100);
        x.thick(1, 100);
        C.due("at 0 nothing is less", x.thaw(1, 0), 500);
        C.due("at -1 neither", x.thaw(1, -1), 500);
        C.due("too heavy now, though it would grow", x.thaw(2, -600), 0);
        IceRoad y = new IceRoad();
        y.cell(20, 1, true);
        y.thick(0, 600);
        y.thick(1, 600);
        C.due("a portage bears all hours", y.thaw(1, 1), 500);
    }

    /** "no LOAD went, and nothing else was done": it is asked of what is, and changes nothing. */
    private static void thawLooksOnly() {
        // 350, cracked, bears 1 down to 142: six hours leave 164, the seventh 133
        S.changesNothing("thaw in the busy scene", Scenes::busy, x -> x.thaw(1, 300), 6);
        S.changesNothing("thaw in the busy scene at -600", Scenes::busy, x -> x.thaw(6, -600), 500);
        S.changesNothing("thaw in the busy scene of 7", Scenes::busy, x -> x.thaw(7, -600), 0);
        // the weather of the hours counts for nothing
        S.changesNothing("thaw with warm weather", x -> {
            x.weather(0, 300);
            x.thick(0, 100);
            x.thick(1, 100);
        }, x -> x.thaw(1, 0), 500);
    }

    /** "of CRACKED ones 2 w": also while it is asked how long; its HEALING is as it was behind the call. */
    private static void thawOfCracked() {
        // 600 bears 36, and half of it cracked; 425 bears 18 and 424 doesn't
        for (int healed = 0; healed <= 24; healed += 12) {
            IceRoad x = new IceRoad();
            x.weather(0, 0);
            x.thick(1, 3000);
            x.load(99, 0, 0);
            x.run(1);
            x.weather(0, -101);
            if (healed > 0) {
                x.run(healed);
            }
            x.thick(0, 600);
            C.due("kind behind " + healed, x.look(0, 0), healed == 24 ? 0 : 3);
            C.due("18 is borne by cracked ice", x.thaw(18, 0), 500);
            C.due("19 by sound ice alone", x.thaw(19, -600), healed == 24 ? 500 : 0);
            C.due("18, and thinner", x.thaw(18, 1), healed == 24 ? 175 : 0);
            C.due("its healing stays", x.look(0, 6), healed == 24 ? -1 : healed);
        }
    }
}
