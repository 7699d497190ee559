/** Promises 26 to 30: the last values that are taken, the first that are refused, and what a refusal leaves. */
public final class RowsEdgesTest {
    private static final Check C = new Check("RowsEdgesTest");
    private static final Scenes S = new Scenes(C);
    private static final int MIN = Integer.MIN_VALUE;
    private static final int MAX = Integer.MAX_VALUE;

    public static void main(String[] args) {
        tellPlaces();
        tellNumbers();
        tellAMissingRow();
        tear();
        rowMissing();
        rowBeyond();
        copyMissing();
        copyBelow();
        copyBeyondTheEnds();
        copyTaken();
        copyOverItself();
        statusBounds();
        statusOfThoseThatTellZero();
        statusOfEachRefusal();
        C.end();
    }

    /** A row of 48 numbers 100 .. 147. */
    private static void numbered(IceRoad x) {
        for (int i = 0; i < 48; i++) {
            x.tell(i, 100 + i);
        }
    }

    /** "BEYOND: i": 0 .. 47, ahead of "NO: v". */
    private static void tellPlaces() {
        for (int i : new int[] {0, 47}) {
            IceRoad x = new IceRoad();
            C.due("tell(" + i + ", 5)", x.tell(i, 5), 1);
            for (int k = 0; k < 48; k++) {
                C.due("row(" + k + ") behind tell(" + i + ", 5)", x.row(k), k == i ? 5 : 0);
            }
        }
        for (int i : new int[] {-1, 48, MIN, MAX}) {
            for (int v : new int[] {0, 10000, -10000}) {
                S.refused("tell(" + i + ", " + v + ")", Scenes::busy, x -> x.tell(i, v), IceRoad.BEYOND);
                S.refused("tell of a missing row, " + i + ", " + v, Scenes::bare, x -> x.tell(i, v), IceRoad.BEYOND);
            }
        }
    }

    /** "NO: v (-9999 .. 9999)". */
    private static void tellNumbers() {
        for (int v : new int[] {-9999, 9999, 0}) {
            IceRoad x = new IceRoad();
            C.due("tell(7, " + v + ")", x.tell(7, v), 1);
            C.due("row(7)", x.row(7), v);
        }
        for (int v : new int[] {-10000, 10000, MIN, MAX}) {
            S.refused("tell(4, " + v + ")", Scenes::busy, x -> x.tell(4, v), IceRoad.NO);
            S.refused("tell of a missing row, 4, " + v, Scenes::bare, x -> x.tell(4, v), IceRoad.NO);
        }
    }

    /** "(it is there then, 48 numbers, others 0, if it was missing)": also one that was torn. */
    private static void tellAMissingRow() {
        IceRoad x = new IceRoad();
        numbered(x);
        C.due("tear", x.tear(), 1);
        C.due("tell", x.tell(20, 7), 1);
        for (int i = 0; i < 48; i++) {
            C.due("row(" + i + ") anew", x.row(i), i == 20 ? 7 : 0);
        }
        C.due("others stay, if it is there", x.tell(21, 8), 1);
        C.due("20", x.row(20), 7);
        C.due("21", x.row(21), 8);
        IceRoad y = new IceRoad();
        C.due("a number 0 makes it, too", y.tell(0, 0), 1);
        C.due("it is there", y.tear(), 1);
    }

    /** "1 if it was there, else 0 (at first it is missing)". */
    private static void tear() {
        S.changesNothing("tear at first", Scenes::bare, IceRoad::tear, 0);
        S.changesNothing("tear again", Scenes::torn, IceRoad::tear, 0);
        IceRoad x = new IceRoad();
        numbered(x);
        x.cold();
        C.due("tear", x.tear(), 1);
        C.due("weather stays", x.heat(5), 105);
    }

    /** "MISSING: 0": ahead of BEYOND. */
    private static void rowMissing() {
        for (int i : new int[] {0, 47, -1, 48, MIN, MAX}) {
            S.refusedByZero("row(" + i + ") of none", Scenes::bare, x -> x.row(i), IceRoad.MISSING);
            S.refusedByZero("row(" + i + ") of a torn one", Scenes::torn, x -> x.row(i), IceRoad.MISSING);
        }
    }

    /** "BEYOND: 0, and status() tells of it". */
    private static void rowBeyond() {
        S.changesNothing("row(0)", RowsEdgesTest::numbered, x -> x.row(0), 100);
        S.changesNothing("row(47)", RowsEdgesTest::numbered, x -> x.row(47), 147);
        S.changesNothing("a number 0 is no refusal", Scenes::busy, x -> x.row(0), 0);
        for (int i : new int[] {-1, 48, MIN, MAX}) {
            S.refusedByZero("row(" + i + ")", Scenes::busy, x -> x.row(i), IceRoad.BEYOND);
        }
    }

    /** "MISSING" of copy: ahead of all else. */
    private static void copyMissing() {
        int[][] calls = {{0, 0, 0}, {0, 1, 5}, {0, 0, -1}, {-1, 0, 1}, {0, 0, 49}, {48, 48, 0}};
        for (int[] c : calls) {
            String call = "copy(" + c[0] + ", " + c[1] + ", " + c[2] + ") of none";
            S.refused(call, Scenes::bare, x -> x.copy(c[0], c[1], c[2]), IceRoad.MISSING);
            S.refused(call + ", torn", Scenes::torn, x -> x.copy(c[0], c[1], c[2]), IceRoad.MISSING);
        }
    }

    /** "BELOW: n": ahead of COPY. */
    private static void copyBelow() {
        int[][] calls = {{0, 0, -1}, {0, 0, MIN}, {-1, 0, -1}, {0, 49, -1}, {48, 48, -1}, {MAX, MAX, MIN}};
        for (int[] c : calls) {
            String call = "copy(" + c[0] + ", " + c[1] + ", " + c[2] + ")";
            S.refused(call, RowsEdgesTest::numbered, x -> x.copy(c[0], c[1], c[2]), IceRoad.BELOW);
            S.refused(call + ", busy", Scenes::busy, x -> x.copy(c[0], c[1], c[2]), IceRoad.BELOW);
        }
    }

    /** "COPY: i or j below 0, i + n or j + n above 48": also where i + n goes round the ints. */
    private static void copyBeyondTheEnds() {
        int[][] calls = {{-1, 0, 0}, {0, -1, 0}, {-1, 0, 1}, {0, -1, 1}, {-1, -1, 2}, {0, 0, 49}, {1, 0, 48},
            {0, 1, 48}, {47, 0, 2}, {0, 47, 2}, {48, 0, 1}, {0, 48, 1}, {49, 0, 0}, {0, 49, 0}, {49, 49, 0},
            {0, 0, MAX}, {1, 0, MAX}, {0, 1, MAX}, {MAX, 0, 1}, {0, MAX, 1}, {MAX, MAX, MAX}, {MIN, 0, 0},
            {0, MIN, 0}, {MIN, MIN, MAX}, {MAX, 0, 0}, {0, MAX, 0}, {MIN, 0, MAX}};
        for (int[] c : calls) {
            String call = "copy(" + c[0] + ", " + c[1] + ", " + c[2] + ")";
            S.refused(call, RowsEdgesTest::numbered, x -> x.copy(c[0], c[1], c[2]), IceRoad.COPY);
            S.refused(call + ", busy", Scenes::busy, x -> x.copy(c[0], c[1], c[2]), IceRoad.COPY);
        }
    }

    /** The last copies that can be made: i + n or j + n is 48, or n is 0. */
    private static void copyTaken() {
        int[][] calls = {{0, 0, 0}, {48, 0, 0}, {0, 48, 0}, {48, 48, 0}, {0, 0, 48}, {5, 5, 7}};
        for (int[] c : calls) {
            String call = "copy(" + c[0] + ", " + c[1] + ", " + c[2] + ")";
            S.changesNothing(call, RowsEdgesTest::numbered, x -> x.copy(c[0], c[1], c[2]), c[2]);
        }
        int[][] moves = {{47, 0, 1}, {0, 47, 1}, {24, 0, 24}, {0, 24, 24}, {1, 0, 47}, {0, 1, 47}};
        for (int[] c : moves) {
            copied(c[0], c[1], c[2]);
        }
    }

    /** "come to its place j on (as they were)": where both stretches have places in common. */
    private static void copyOverItself() {
        copied(10, 11, 5);
        copied(11, 10, 5);
        copied(10, 14, 5);
        copied(14, 10, 5);
        copied(0, 3, 45);
        copied(3, 0, 45);
    }

    private static void copied(int from, int to, int n) {
        IceRoad x = new IceRoad();
        numbered(x);
        String call = "copy(" + from + ", " + to + ", " + n + ")";
        C.due(call, x.copy(from, to, n), n);
        for (int i = 0; i < 48; i++) {
            boolean isNew = i >= to && i < to + n;
            C.due("row(" + i + ") behind " + call, x.row(i), isNew ? 100 + i - to + from : 100 + i);
        }
    }

    /** "-2 .. -8"; "NO: another number". */
    private static void statusBounds() {
        for (int by = -8; by <= -2; by++) {
            int asked = by;
            S.changesNothing("status(" + by + ") of a new one", Scenes::bare, x -> x.status(asked), 0);
        }
        for (int by : new int[] {-9, -1, 0, 1, 2, -10, MIN, MAX}) {
            S.refused("status(" + by + ")", Scenes::busy, x -> x.status(by), IceRoad.NO);
        }
    }

    /** "(of those that tell 0 by what they tell)": a 0 by BEYOND, NO or MISSING counts there. */
    private static void statusOfThoseThatTellZero() {
        IceRoad x = new IceRoad();
        x.weather(48, 0);
        x.heat(-1);
        C.due("beyond", x.status(IceRoad.BEYOND), 2);
        x.weather(0, 301);
        C.due("no", x.status(IceRoad.NO), 1);
        x.row(48);
        C.due("missing", x.status(IceRoad.MISSING), 1);
        x.tell(0, 0);
        x.row(48);
        C.due("beyond then", x.status(IceRoad.BEYOND), 3);
        x.row(0);
        x.tear();
        x.tear();
        x.wipe();
        x.feed(0, 0);
        x.bears(0, 1);
        x.thaw(1, 0);
        int all = 0;
        for (int by = -8; by <= -2; by++) {
            all += x.status(by);
        }
        C.due("a 0 that is an answer counts nowhere", all, 5);
    }

    /** Each refusal counts under its own number, as often as it was told. */
    private static void statusOfEachRefusal() {
        IceRoad x = new IceRoad();
        for (int i = 0; i < 3; i++) {
            x.cold();
        }
        x.tell(0, 0);
        for (int i = 0; i < 4; i++) {
            x.look(2, 0);
        }
        for (int i = 0; i < 5; i++) {
            x.run(-1);
        }
        for (int i = 0; i < 6; i++) {
            x.flood(0);
        }
        for (int i = 0; i < 7; i++) {
            x.copy(0, 0, 49);
        }
        for (int i = 0; i < 8; i++) {
            x.run(0);
        }
        for (int c = 2; c < 19; c++) {
            x.cell(20, 1, false);
        }
        for (int by = -8; by <= -2; by++) {
            C.due("status(" + by + ")", x.status(by), 1 - by);
        }
        C.due("none of its own is refused", x.status(IceRoad.NO), 8);
    }
}
