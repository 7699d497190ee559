import java.util.function.Consumer;

/** Promises 1 to 13: the last values that are taken, the first that are refused, and what a refusal leaves. */
public final class RoadEdgesTest {
    private static final Check C = new Check("RoadEdgesTest");
    private static final Scenes S = new Scenes(C);
    private static final int MIN = Integer.MIN_VALUE;
    private static final int MAX = Integer.MAX_VALUE;

    public static void main(String[] args) {
        theBusySceneHasAll();
        aNewObject();
        cellDepth();
        cellLength();
        cellWithLoads();
        cellFull();
        look();
        thick();
        read();
        bears();
        weather();
        cold();
        heat();
        sweep();
        flood();
        bypass();
        snow();
        C.end();
    }

    /** What the other tests rely on. */
    private static void theBusySceneHasAll() {
        IceRoad x = new IceRoad();
        Scenes.busy(x);
        for (int kind = 0; kind <= 4; kind++) {
            C.due("kind of cell " + kind, x.look(kind, 0), kind);
        }
        int[] states = {0, 2, 3, 4, 1};
        for (int l = 0; l < 5; l++) {
            C.due("state of load " + l, x.of(l, 3), states[l]);
        }
        C.due("load 4 is on", x.of(4, 4), 0);
        C.due("wear of 0", x.look(0, 5), 40);
        C.due("snow of 0", x.look(0, 2), 20);
        C.due("rules", x.count(3), 2);
        C.due("tape", x.count(4), 12);
        C.due("known of 3", x.look(3, 7), 800);
        C.due("row", x.row(4), 500);
    }

    /** "Two ICE CELLS of THICKNESS 0, DEPTH 20, LENGTH 1; no LOADS, RULES; THE TAPE is empty." */
    private static void aNewObject() {
        IceRoad x = new IceRoad();
        C.due("hour", x.count(0), 0);
        C.due("cells", x.count(1), 2);
        C.due("loads", x.count(2), 0);
        C.due("rules", x.count(3), 0);
        C.due("tape", x.count(4), 0);
        C.due("a number beyond of cells", x.look(2, 0), IceRoad.BEYOND);
        C.due("of loads", x.of(0, 0), IceRoad.BEYOND);
        C.due("the row is missing", x.cold(), IceRoad.MISSING);
        C.due("all are gaps", x.heat(47), -100);
        for (int c = 0; c < 2; c++) {
            int[] due = {0, 0, 0, 20, 1, 0, IceRoad.NONE, 0, 3000, 0};
            for (int what = 0; what <= 9; what++) {
                C.due("new look(" + c + ", " + what + ")", x.look(c, what), due[what]);
            }
        }
        C.due("two objects have nothing in common", new IceRoad().count(1) + x.cell(1, 1, false), 4);
        C.due("the next is new", new IceRoad().count(1), 2);
    }

    /** "a DEPTH (1 .. 60 ..)"; "NO: DEPTH". */
    private static void cellDepth() {
        for (int depth : new int[] {1, 60}) {
            IceRoad x = new IceRoad();
            C.due("cell of depth " + depth, x.cell(depth, 1, false), 2);
            C.due("a portage of depth " + depth, x.cell(depth, 1, true), 3);
            C.due("its depth", x.look(2, 3), depth);
            C.due("the portage's", x.look(3, 3), depth);
        }
        for (int depth : new int[] {0, 61, -1, MIN, MAX}) {
            S.refused("cell(" + depth + ", 1, false)", Scenes::bare, x -> x.cell(depth, 1, false), IceRoad.NO);
            S.refused("cell(" + depth + ", 1, true)", Scenes::bare, x -> x.cell(depth, 1, true), IceRoad.NO);
        }
    }

    /** "a LENGTH (1 .. 4 hours)"; "NO: .. LENGTH". */
    private static void cellLength() {
        for (int length : new int[] {1, 4}) {
            IceRoad x = new IceRoad();
            C.due("cell of length " + length, x.cell(20, length, false), 2);
            C.due("a portage of length " + length, x.cell(20, length, true), 3);
            C.due("its length", x.look(2, 4), length);
            C.due("the portage's", x.look(3, 4), length);
        }
        for (int length : new int[] {0, 5, -1, MIN, MAX}) {
            S.refused("cell(20, " + length + ", false)", Scenes::bare, x -> x.cell(20, length, false), IceRoad.NO);
            S.refused("cell(20, " + length + ", true)", Scenes::bare, x -> x.cell(20, length, true), IceRoad.NO);
        }
    }

    /** "NO: .. LOADS are there": of any STATE. */
    private static void cellWithLoads() {
        for (int state = 0; state <= 4; state++) {
            Consumer<IceRoad> scene = Scenes.loadOf(state);
            IceRoad x = new IceRoad();
            scene.accept(x);
            C.due("the load is of state", x.of(0, 3), state);
            S.refused("cell with a load of state " + state, scene, y -> y.cell(20, 1, false), IceRoad.NO);
            S.refused("portage with a load of state " + state, scene, y -> y.cell(20, 1, true), IceRoad.NO);
        }
        S.refused("cell in the busy scene", Scenes::busy, y -> y.cell(20, 1, false), IceRoad.NO);
        S.refused("cell of depth 61 in the busy scene", Scenes::busy, y -> y.cell(61, 1, false), IceRoad.NO);
        S.refused("cell of length 5 in the busy scene", Scenes::busy, y -> y.cell(20, 5, true), IceRoad.NO);
        IceRoad x = new IceRoad();
        x.load(100, 0, 0);
        C.due("a load that was refused isn't there", x.cell(20, 1, false), 2);
    }

    /** "CELLS 0 .. n - 1 (n 2 .. 10)"; "FULL"; and NO ahead of it. */
    private static void cellFull() {
        IceRoad x = new IceRoad();
        for (int c = 2; c < 10; c++) {
            C.due("cell " + c, x.cell(20, 1, c % 2 == 0), c);
            C.due("cells with it", x.count(1), c + 1);
        }
        C.due("the tenth is there", x.look(9, 0), 0);
        S.refused("an eleventh", Scenes::tenCells, y -> y.cell(20, 1, false), IceRoad.FULL);
        S.refused("an eleventh, a portage", Scenes::tenCells, y -> y.cell(20, 1, true), IceRoad.FULL);
        S.refused("an eleventh of depth 0", Scenes::tenCells, y -> y.cell(0, 1, false), IceRoad.NO);
        S.refused("an eleventh of length 5", Scenes::tenCells, y -> y.cell(20, 5, false), IceRoad.NO);
        Scenes.tenCells(x);
        x.load(1, 0, 0);
        C.due("an eleventh with loads", x.cell(20, 1, false), IceRoad.NO);
        C.due("full is not told", x.status(IceRoad.FULL), 8);
    }

    /** "BEYOND, NO" of look, in this order, and what = 0 .. 9. */
    private static void look() {
        IceRoad x = new IceRoad();
        Scenes.busy(x);
        C.due("look(0, 0)", x.look(0, 0), 0);
        C.due("look(4, 0)", x.look(4, 0), 4);
        C.due("look(4, 9)", x.look(4, 9), 0);
        C.due("look(0, 9)", x.look(0, 9), 1);
        for (int cell : new int[] {-1, 5, 10, MIN, MAX}) {
            for (int what : new int[] {0, 9, -1, 10}) {
                S.refused("look(" + cell + ", " + what + ")", Scenes::busy, y -> y.look(cell, what), IceRoad.BEYOND);
            }
        }
        for (int what : new int[] {-1, 10, MIN, MAX}) {
            S.refused("look(0, " + what + ")", Scenes::busy, y -> y.look(0, what), IceRoad.NO);
            S.refused("look(4, " + what + ")", Scenes::busy, y -> y.look(4, what), IceRoad.NO);
        }
        for (int cell = 0; cell < 5; cell++) {
            int asked = cell;
            int healing = cell == 3 ? 0 : IceRoad.NONE;
            S.changesNothing("healing of kind " + cell, Scenes::busy, y -> y.look(asked, 6), healing);
        }
    }

    /** "THICKNESS (0 .. 3000)"; "BEYOND, KIND: a PORTAGE; NO". */
    private static void thick() {
        for (int cell = 0; cell < 4; cell++) {
            IceRoad x = new IceRoad();
            Scenes.busy(x);
            int before = x.look(cell, 1);
            int wear = x.look(cell, 5);
            C.due("to 3000", x.thick(cell, 3000), before);
            C.due("to 0", x.thick(cell, 0), 3000);
            C.due("it is 0", x.look(cell, 1), 0);
            C.due("wear stays, of kind " + cell, x.look(cell, 5), wear);
            C.due("kind stays", x.look(cell, 0), cell);
        }
        for (int v : new int[] {-1, 3001, MIN, MAX}) {
            S.refused("thick(0, " + v + ")", Scenes::busy, x -> x.thick(0, v), IceRoad.NO);
            S.refused("thick(3, " + v + ")", Scenes::busy, x -> x.thick(3, v), IceRoad.NO);
        }
        for (int v : new int[] {0, 3000, -1, 3001}) {
            S.refused("thick of a portage, " + v, Scenes::busy, x -> x.thick(4, v), IceRoad.KIND);
            for (int cell : new int[] {-1, 5, MIN, MAX}) {
                S.refused("thick(" + cell + ", " + v + ")", Scenes::busy, x -> x.thick(cell, v), IceRoad.BEYOND);
            }
        }
    }

    /** "BEYOND, KIND: a PORTAGE" of read. */
    private static void read() {
        IceRoad x = new IceRoad();
        Scenes.busy(x);
        for (int cell = 0; cell < 4; cell++) {
            int thickness = x.look(cell, 1);
            C.due("read of kind " + cell, x.read(cell), thickness);
            C.due("least", x.look(cell, 7), thickness);
            C.due("most", x.look(cell, 8), thickness);
        }
        for (int cell : new int[] {-1, 5, MIN, MAX}) {
            S.refused("read(" + cell + ")", Scenes::busy, y -> y.read(cell), IceRoad.BEYOND);
        }
        S.refused("read of a portage", Scenes::busy, y -> y.read(4), IceRoad.KIND);
    }

    /** "a WEIGHT w (1 .. 99)"; "BEYOND, NO" of bears. */
    private static void bears() {
        S.changesNothing("bears(0, 1)", Scenes::busy, x -> x.bears(0, 1), 1);
        S.changesNothing("bears(0, 99)", Scenes::busy, x -> x.bears(0, 99), 1);
        S.changesNothing("bears(3, 6)", Scenes::busy, x -> x.bears(3, 6), 1);
        S.changesNothing("bears(3, 7)", Scenes::busy, x -> x.bears(3, 7), 0);
        S.changesNothing("bears(4, 99)", Scenes::busy, x -> x.bears(4, 99), 1);
        for (int weight : new int[] {0, 100, -1, MIN, MAX}) {
            S.refused("bears(0, " + weight + ")", Scenes::busy, x -> x.bears(0, weight), IceRoad.NO);
            S.refused("a portage, " + weight, Scenes::busy, x -> x.bears(4, weight), IceRoad.NO);
        }
        for (int cell : new int[] {-1, 5, MIN, MAX}) {
            for (int weight : new int[] {1, 0, 100}) {
                S.refused("bears(" + cell + ", " + weight + ")", Scenes::busy, x -> x.bears(cell, weight),
                        IceRoad.BEYOND);
            }
        }
    }

    /** "hour 0 .. 47 (v = -9999: a GAP)"; "-600 .. 300"; "BEYOND: 0; NO: 0, and status() tells of it". */
    private static void weather() {
        IceRoad x = new IceRoad();
        for (int hour : new int[] {0, 47}) {
            C.due("a gap at first", x.weather(hour, -600), -9999);
            C.due("-600 before", x.weather(hour, 300), -600);
            C.due("300 before", x.weather(hour, -9999), 300);
            C.due("a gap before", x.weather(hour, 0), -9999);
            C.due("0 before, and no gap", x.weather(hour, -9999), 0);
        }
        C.due("nothing was refused", x.status(IceRoad.BEYOND) + x.status(IceRoad.NO), 0);
        for (int hour : new int[] {-1, 48, MIN, MAX}) {
            for (int v : new int[] {0, -9999, -601, 301}) {
                S.refusedByZero("weather(" + hour + ", " + v + ")", Scenes::busy, y -> y.weather(hour, v),
                        IceRoad.BEYOND);
            }
        }
        for (int v : new int[] {-601, 301, -9998, -10000, 9999, MIN, MAX}) {
            S.refusedByZero("weather(0, " + v + ")", Scenes::busy, y -> y.weather(0, v), IceRoad.NO);
            S.refusedByZero("weather(47, " + v + ")", Scenes::busy, y -> y.weather(47, v), IceRoad.NO);
        }
    }

    /** "what is not -600 .. 300 is a GAP: how many are no GAPS. MISSING". */
    private static void cold() {
        int[] told = {-600, -601, 300, 301, -9999, 9999, 0, 1, -1};
        int[] due = {-600, -9999, 300, -9999, -9999, -9999, 0, 1, -1};
        IceRoad x = new IceRoad();
        for (int i = 0; i < told.length; i++) {
            x.tell(i, told[i]);
            x.tell(47 - i, told[i]);
        }
        C.due("no gaps", x.cold(), 40);
        for (int i = 0; i < told.length; i++) {
            C.due("hour of " + told[i], x.weather(i, -9999), due[i]);
            C.due("hour of " + told[i] + " at the end", x.weather(47 - i, -9999), due[i]);
        }
        IceRoad y = new IceRoad();
        y.weather(7, -5);
        y.tell(0, 0);
        C.due("all 48", y.cold(), 48);
        C.due("a number that was there is another one", y.weather(7, -9999), 0);
        for (int i = 0; i < 48; i++) {
            y.tell(i, i % 2 == 0 ? 301 : -601);
        }
        C.due("gaps alone", y.cold(), 0);
        C.due("one that was there is a gap", y.weather(0, -9999), -9999);
        C.due("no number is left", y.heat(7), -100);
        y.tell(47, 300);
        C.due("one number alone", y.cold(), 1);
        S.refused("cold without a row", Scenes.loadOf(1), IceRoad::cold, IceRoad.MISSING);
        S.refused("cold behind tear", Scenes::torn, IceRoad::cold, IceRoad.MISSING);
    }

    /** "HEAT of an hour (0 or more)"; "BEYOND: 0, and status() tells of it". */
    private static void heat() {
        S.changesNothing("heat(0)", Scenes::busy, x -> x.heat(0), 0);
        S.changesNothing("heat(9)", Scenes::busy, x -> x.heat(9), -200);
        S.changesNothing("heat of a late hour", Scenes::busy, x -> x.heat(MAX / 48 * 48 - 48 + 9), -200);
        for (int hour : new int[] {-1, -48, MIN}) {
            S.refusedByZero("heat(" + hour + ")", Scenes::busy, x -> x.heat(hour), IceRoad.BEYOND);
        }
        // the last int is hour 31 of its 48
        IceRoad x = new IceRoad();
        x.weather(30, -7);
        x.weather(31, -8);
        x.weather(32, -9);
        C.due("heat(max)", x.heat(MAX), -8);
        C.due("heat(max - 1)", x.heat(MAX - 1), -7);
    }

    /** "an ICE CELL is SWEPT, a SWEPT one stays so; SNOW is 0"; "BEYOND, KIND: it is neither ICE nor SWEPT". */
    private static void sweep() {
        IceRoad x = new IceRoad();
        Scenes.busy(x);
        C.due("sweep ice", x.sweep(0), 1);
        C.due("it is swept", x.look(0, 0), 1);
        C.due("its snow", x.look(0, 2), 0);
        C.due("its wear stays", x.look(0, 5), 40);
        C.due("its thickness stays", x.look(0, 1), 1500);
        C.due("its load stays on", x.look(0, 9), 1);
        S.changesNothing("sweep a swept one", Scenes::busy, y -> y.sweep(1), 1);
        for (int cell = 2; cell <= 4; cell++) {
            int asked = cell;
            S.refused("sweep kind " + cell, Scenes::busy, y -> y.sweep(asked), IceRoad.KIND);
        }
        for (int cell : new int[] {-1, 5, MIN, MAX}) {
            S.refused("sweep(" + cell + ")", Scenes::busy, y -> y.sweep(cell), IceRoad.BEYOND);
        }
    }

    /** "a SWEPT or FLOODED CELL is FLOODED"; "BEYOND, KIND: it is neither SWEPT nor FLOODED". */
    private static void flood() {
        IceRoad x = new IceRoad();
        Scenes.busy(x);
        int thickness = x.look(1, 1);
        C.due("flood a swept one", x.flood(1), 1);
        C.due("it is flooded", x.look(1, 0), 2);
        C.due("its thickness stays", x.look(1, 1), thickness);
        S.changesNothing("flood a flooded one", Scenes::busy, y -> y.flood(2), 1);
        for (int cell : new int[] {0, 3, 4}) {
            S.refused("flood kind " + cell, Scenes::busy, y -> y.flood(cell), IceRoad.KIND);
        }
        for (int cell : new int[] {-1, 5, MIN, MAX}) {
            S.refused("flood(" + cell + ")", Scenes::busy, y -> y.flood(cell), IceRoad.BEYOND);
        }
    }

    /** A cracked cell 0 with a load on it, which bears it. */
    private static void crackedUnderLoad(IceRoad x) {
        x.weather(0, 0);
        x.load(99, 0, 0);
        x.run(1);
        x.thick(0, 1501);
        x.thick(1, 2000);
        x.snow(3);
        x.read(0);
        x.load(9, 0, 0);
        x.run(1);
        x.tell(3, 33);
        Check.type(x, "stop 1 if ra");
    }

    /** "a CRACKED CELL without LOADS is SWEPT, SNOW 0, WEAR 0, THICKNESS half of what it was". */
    private static void bypass() {
        int[] thicknesses = {0, 1, 2, 3, 2999, 3000};
        int[] halves = {0, 0, 1, 1, 1499, 1500};
        for (int i = 0; i < thicknesses.length; i++) {
            IceRoad x = new IceRoad();
            Scenes.busy(x);
            x.thick(3, thicknesses[i]);
            C.due("bypass at " + thicknesses[i], x.bypass(3), halves[i]);
            C.due("thickness then", x.look(3, 1), halves[i]);
            C.due("swept", x.look(3, 0), 1);
            C.due("snow", x.look(3, 2), 0);
            C.due("wear", x.look(3, 5), 0);
            C.due("healing", x.look(3, 6), IceRoad.NONE);
        }
        for (int cell : new int[] {0, 1, 2, 4}) {
            S.refused("bypass kind " + cell, Scenes::busy, y -> y.bypass(cell), IceRoad.KIND);
        }
        for (int cell : new int[] {-1, 5, MIN, MAX}) {
            S.refused("bypass(" + cell + ")", Scenes::busy, y -> y.bypass(cell), IceRoad.BEYOND);
        }
        S.refused("bypass under a load", RoadEdgesTest::crackedUnderLoad, y -> y.bypass(0), IceRoad.NO);
        S.refused("bypass under a load, busy", Scenes::busyUnderLoad, y -> y.bypass(3), IceRoad.NO);
        IceRoad x = new IceRoad();
        crackedUnderLoad(x);
        C.due("wear by the load", x.look(0, 5), 9);
        x.run(1);
        C.due("the load went on", x.of(1, 4), 1);
        C.due("bypass then", x.bypass(0), 750);
        C.due("wear is 0", x.look(0, 5), 0);
    }

    /** "Snow that falls (1 .. 100)"; "SNOW .. is more (200 at most)"; "NO". */
    private static void snow() {
        IceRoad x = new IceRoad();
        x.sweep(0);
        C.due("snow(1)", x.snow(1), 1);
        C.due("of 1", x.look(0, 2), 1);
        x.sweep(0);
        x.flood(0);
        C.due("snow(100)", x.snow(100), 1);
        C.due("ice again", x.look(0, 0), 0);
        C.due("on the other", x.look(1, 2), 101);
        C.due("snow(99)", x.snow(99), 0);
        C.due("200", x.look(1, 2), 200);
        C.due("199", x.look(0, 2), 199);
        C.due("one more", x.snow(1), 0);
        C.due("200 stays", x.look(1, 2), 200);
        C.due("200 now", x.look(0, 2), 200);
        C.due("100 more", x.snow(100), 0);
        C.due("200 at most", x.look(0, 2), 200);
        IceRoad y = new IceRoad();
        Scenes.busy(y);
        C.due("how many changed their kind", y.snow(50), 2);
        int[] kinds = {0, 0, 0, 3, 4};
        int[] snows = {70, 50, 50, 70, 0};
        for (int c = 0; c < 5; c++) {
            C.due("kind of " + c, y.look(c, 0), kinds[c]);
            C.due("snow of " + c, y.look(c, 2), snows[c]);
        }
        IceRoad z = new IceRoad();
        for (int c = 2; c < 10; c++) {
            z.snow(10);
            z.cell(20, 1, false);
            C.due("a cell that comes behind the snow", z.look(c, 2), 0);
        }
        C.due("on ten cells", z.snow(1), 0);
        C.due("the first of ten", z.look(0, 2), 81);
        C.due("the last of ten", z.look(9, 2), 1);
        for (int v : new int[] {0, 101, -1, MIN, MAX}) {
            S.refused("snow(" + v + ")", Scenes::busy, w -> w.snow(v), IceRoad.NO);
        }
    }
}
